theorem dX0_init_0 : decode cX0_init 0 = .ok (.aload_n 0, 1) := by decide +kernel
theorem dX0_init_1 : decode cX0_init 1 = .ok (.invokespecial 3, 3) := by decide +kernel
theorem dX0_init_4 : decode cX0_init 4 = .ok (.aload_n 0, 1) := by decide +kernel
theorem dX0_init_5 : decode cX0_init 5 = .ok (.bipush 21, 2) := by decide +kernel
theorem dX0_init_7 : decode cX0_init 7 = .ok (.newarray .int, 2) := by decide +kernel
theorem dX0_init_9 : decode cX0_init 9 = .ok (.putfield 9, 3) := by decide +kernel
theorem dX0_init_12 : decode cX0_init 12 = .ok (.return_, 1) := by decide +kernel
theorem dX0_append_0 : decode cX0_append 0 = .ok (.aload_n 0, 1) := by decide +kernel
theorem dX0_append_1 : decode cX0_append 1 = .ok (.getfield 15, 3) := by decide +kernel
theorem dX0_append_4 : decode cX0_append 4 = .ok (.aload_n 0, 1) := by decide +kernel
theorem dX0_append_5 : decode cX0_append 5 = .ok (.getfield 9, 3) := by decide +kernel
theorem dX0_append_8 : decode cX0_append 8 = .ok (.arraylength, 1) := by decide +kernel
theorem dX0_append_9 : decode cX0_append 9 = .ok (.if_icmp .ge 23, 3) := by decide +kernel
theorem dX0_append_12 : decode cX0_append 12 = .ok (.aload_n 0, 1) := by decide +kernel
theorem dX0_append_13 : decode cX0_append 13 = .ok (.getfield 9, 3) := by decide +kernel
theorem dX0_append_16 : decode cX0_append 16 = .ok (.aload_n 0, 1) := by decide +kernel
theorem dX0_append_17 : decode cX0_append 17 = .ok (.getfield 15, 3) := by decide +kernel
theorem dX0_append_20 : decode cX0_append 20 = .ok (.iload_n 1, 1) := by decide +kernel
theorem dX0_append_21 : decode cX0_append 21 = .ok (.iastore, 1) := by decide +kernel
theorem dX0_append_22 : decode cX0_append 22 = .ok (.aload_n 0, 1) := by decide +kernel
theorem dX0_append_23 : decode cX0_append 23 = .ok (.dup, 1) := by decide +kernel
theorem dX0_append_24 : decode cX0_append 24 = .ok (.getfield 15, 3) := by decide +kernel
theorem dX0_append_27 : decode cX0_append 27 = .ok (.iconst 1, 1) := by decide +kernel
theorem dX0_append_28 : decode cX0_append 28 = .ok (.iadd, 1) := by decide +kernel
theorem dX0_append_29 : decode cX0_append 29 = .ok (.putfield 15, 3) := by decide +kernel
theorem dX0_append_32 : decode cX0_append 32 = .ok (.return_, 1) := by decide +kernel
theorem dX0_codeAt_0 : decode cX0_codeAt 0 = .ok (.iload_n 1, 1) := by decide +kernel
theorem dX0_codeAt_1 : decode cX0_codeAt 1 = .ok (.ifCond .lt 20, 3) := by decide +kernel
theorem dX0_codeAt_4 : decode cX0_codeAt 4 = .ok (.iload_n 1, 1) := by decide +kernel
theorem dX0_codeAt_5 : decode cX0_codeAt 5 = .ok (.aload_n 0, 1) := by decide +kernel
theorem dX0_codeAt_6 : decode cX0_codeAt 6 = .ok (.getfield 15, 3) := by decide +kernel
theorem dX0_codeAt_9 : decode cX0_codeAt 9 = .ok (.if_icmp .ge 12, 3) := by decide +kernel
theorem dX0_codeAt_12 : decode cX0_codeAt 12 = .ok (.aload_n 0, 1) := by decide +kernel
theorem dX0_codeAt_13 : decode cX0_codeAt 13 = .ok (.getfield 9, 3) := by decide +kernel
theorem dX0_codeAt_16 : decode cX0_codeAt 16 = .ok (.iload_n 1, 1) := by decide +kernel
theorem dX0_codeAt_17 : decode cX0_codeAt 17 = .ok (.iaload, 1) := by decide +kernel
theorem dX0_codeAt_18 : decode cX0_codeAt 18 = .ok (.goto 6, 3) := by decide +kernel
theorem dX0_codeAt_21 : decode cX0_codeAt 21 = .ok (.sipush (-1001), 3) := by decide +kernel
theorem dX0_codeAt_24 : decode cX0_codeAt 24 = .ok (.ireturn, 1) := by decide +kernel
theorem dX0_figureAt_0 : decode cX0_figureAt 0 = .ok (.aload_n 0, 1) := by decide +kernel
theorem dX0_figureAt_1 : decode cX0_figureAt 1 = .ok (.iload_n 1, 1) := by decide +kernel
theorem dX0_figureAt_2 : decode cX0_figureAt 2 = .ok (.invokevirtual 19, 3) := by decide +kernel
theorem dX0_figureAt_5 : decode cX0_figureAt 5 = .ok (.bipush 48, 2) := by decide +kernel
theorem dX0_figureAt_7 : decode cX0_figureAt 7 = .ok (.isub, 1) := by decide +kernel
theorem dX0_figureAt_8 : decode cX0_figureAt 8 = .ok (.ireturn, 1) := by decide +kernel
theorem dX0_firstFault_0 : decode cX0_firstFault 0 = .ok (.iconst 0, 1) := by decide +kernel
theorem dX0_firstFault_1 : decode cX0_firstFault 1 = .ok (.istore_n 1, 1) := by decide +kernel
theorem dX0_firstFault_2 : decode cX0_firstFault 2 = .ok (.iload_n 1, 1) := by decide +kernel
theorem dX0_firstFault_3 : decode cX0_firstFault 3 = .ok (.aload_n 0, 1) := by decide +kernel
theorem dX0_firstFault_4 : decode cX0_firstFault 4 = .ok (.getfield 15, 3) := by decide +kernel
theorem dX0_firstFault_7 : decode cX0_firstFault 7 = .ok (.if_icmp .ge 17, 3) := by decide +kernel
theorem dX0_firstFault_10 : decode cX0_firstFault 10 = .ok (.aload_n 0, 1) := by decide +kernel
theorem dX0_firstFault_11 : decode cX0_firstFault 11 = .ok (.iload_n 1, 1) := by decide +kernel
theorem dX0_firstFault_12 : decode cX0_firstFault 12 = .ok (.invokevirtual 23, 3) := by decide +kernel
theorem dX0_firstFault_15 : decode cX0_firstFault 15 = .ok (.ifCond .eq 9, 3) := by decide +kernel
theorem dX0_firstFault_18 : decode cX0_firstFault 18 = .ok (.iinc 1 1, 3) := by decide +kernel
theorem dX0_firstFault_21 : decode cX0_firstFault 21 = .ok (.goto (-19), 3) := by decide +kernel
theorem dX0_firstFault_24 : decode cX0_firstFault 24 = .ok (.iload_n 1, 1) := by decide +kernel
theorem dX0_firstFault_25 : decode cX0_firstFault 25 = .ok (.ireturn, 1) := by decide +kernel
theorem dX0_fits_0 : decode cX0_fits 0 = .ok (.aload_n 0, 1) := by decide +kernel
theorem dX0_fits_1 : decode cX0_fits 1 = .ok (.iload_n 1, 1) := by decide +kernel
theorem dX0_fits_2 : decode cX0_fits 2 = .ok (.invokevirtual 19, 3) := by decide +kernel
theorem dX0_fits_5 : decode cX0_fits 5 = .ok (.istore_n 2, 1) := by decide +kernel
theorem dX0_fits_6 : decode cX0_fits 6 = .ok (.iload_n 1, 1) := by decide +kernel
theorem dX0_fits_7 : decode cX0_fits 7 = .ok (.ifCond .ne 21, 3) := by decide +kernel
theorem dX0_fits_10 : decode cX0_fits 10 = .ok (.iload_n 2, 1) := by decide +kernel
theorem dX0_fits_11 : decode cX0_fits 11 = .ok (.bipush 49, 2) := by decide +kernel
theorem dX0_fits_13 : decode cX0_fits 13 = .ok (.if_icmp .lt 13, 3) := by decide +kernel
theorem dX0_fits_16 : decode cX0_fits 16 = .ok (.iload_n 2, 1) := by decide +kernel
theorem dX0_fits_17 : decode cX0_fits 17 = .ok (.bipush 52, 2) := by decide +kernel
theorem dX0_fits_19 : decode cX0_fits 19 = .ok (.if_icmp .gt 7, 3) := by decide +kernel
theorem dX0_fits_22 : decode cX0_fits 22 = .ok (.iconst 1, 1) := by decide +kernel
theorem dX0_fits_23 : decode cX0_fits 23 = .ok (.goto 4, 3) := by decide +kernel
theorem dX0_fits_26 : decode cX0_fits 26 = .ok (.iconst 0, 1) := by decide +kernel
theorem dX0_fits_27 : decode cX0_fits 27 = .ok (.ireturn, 1) := by decide +kernel
theorem dX0_fits_28 : decode cX0_fits 28 = .ok (.iload_n 1, 1) := by decide +kernel
theorem dX0_fits_29 : decode cX0_fits 29 = .ok (.iconst 4, 1) := by decide +kernel
theorem dX0_fits_30 : decode cX0_fits 30 = .ok (.irem, 1) := by decide +kernel
theorem dX0_fits_31 : decode cX0_fits 31 = .ok (.tableswitch 67 1 3 #[25, 37, 55], 25) := by decide +kernel
theorem dX0_fits_56 : decode cX0_fits 56 = .ok (.iload_n 2, 1) := by decide +kernel
theorem dX0_fits_57 : decode cX0_fits 57 = .ok (.bipush 59, 2) := by decide +kernel
theorem dX0_fits_59 : decode cX0_fits 59 = .ok (.if_icmp .ne 7, 3) := by decide +kernel
theorem dX0_fits_62 : decode cX0_fits 62 = .ok (.iconst 1, 1) := by decide +kernel
theorem dX0_fits_63 : decode cX0_fits 63 = .ok (.goto 4, 3) := by decide +kernel
theorem dX0_fits_66 : decode cX0_fits 66 = .ok (.iconst 0, 1) := by decide +kernel
theorem dX0_fits_67 : decode cX0_fits 67 = .ok (.ireturn, 1) := by decide +kernel
theorem dX0_fits_68 : decode cX0_fits 68 = .ok (.iload_n 2, 1) := by decide +kernel
theorem dX0_fits_69 : decode cX0_fits 69 = .ok (.bipush 49, 2) := by decide +kernel
theorem dX0_fits_71 : decode cX0_fits 71 = .ok (.if_icmp .lt 13, 3) := by decide +kernel
theorem dX0_fits_74 : decode cX0_fits 74 = .ok (.iload_n 2, 1) := by decide +kernel
theorem dX0_fits_75 : decode cX0_fits 75 = .ok (.bipush 57, 2) := by decide +kernel
theorem dX0_fits_77 : decode cX0_fits 77 = .ok (.if_icmp .gt 7, 3) := by decide +kernel
theorem dX0_fits_80 : decode cX0_fits 80 = .ok (.iconst 1, 1) := by decide +kernel
theorem dX0_fits_81 : decode cX0_fits 81 = .ok (.goto 4, 3) := by decide +kernel
theorem dX0_fits_84 : decode cX0_fits 84 = .ok (.iconst 0, 1) := by decide +kernel
theorem dX0_fits_85 : decode cX0_fits 85 = .ok (.ireturn, 1) := by decide +kernel
theorem dX0_fits_86 : decode cX0_fits 86 = .ok (.iload_n 2, 1) := by decide +kernel
theorem dX0_fits_87 : decode cX0_fits 87 = .ok (.bipush 44, 2) := by decide +kernel
theorem dX0_fits_89 : decode cX0_fits 89 = .ok (.if_icmp .ne 7, 3) := by decide +kernel
theorem dX0_fits_92 : decode cX0_fits 92 = .ok (.iconst 1, 1) := by decide +kernel
theorem dX0_fits_93 : decode cX0_fits 93 = .ok (.goto 4, 3) := by decide +kernel
theorem dX0_fits_96 : decode cX0_fits 96 = .ok (.iconst 0, 1) := by decide +kernel
theorem dX0_fits_97 : decode cX0_fits 97 = .ok (.ireturn, 1) := by decide +kernel
theorem dX0_fits_98 : decode cX0_fits 98 = .ok (.iload_n 2, 1) := by decide +kernel
theorem dX0_fits_99 : decode cX0_fits 99 = .ok (.bipush 48, 2) := by decide +kernel
theorem dX0_fits_101 : decode cX0_fits 101 = .ok (.if_icmp .lt 13, 3) := by decide +kernel
theorem dX0_fits_104 : decode cX0_fits 104 = .ok (.iload_n 2, 1) := by decide +kernel
theorem dX0_fits_105 : decode cX0_fits 105 = .ok (.bipush 57, 2) := by decide +kernel
theorem dX0_fits_107 : decode cX0_fits 107 = .ok (.if_icmp .gt 7, 3) := by decide +kernel
theorem dX0_fits_110 : decode cX0_fits 110 = .ok (.iconst 1, 1) := by decide +kernel
theorem dX0_fits_111 : decode cX0_fits 111 = .ok (.goto 4, 3) := by decide +kernel
theorem dX0_fits_114 : decode cX0_fits 114 = .ok (.iconst 0, 1) := by decide +kernel
theorem dX0_fits_115 : decode cX0_fits 115 = .ok (.ireturn, 1) := by decide +kernel
theorem dX0_isField_0 : decode cX0_isField 0 = .ok (.aload_n 0, 1) := by decide +kernel
theorem dX0_isField_1 : decode cX0_isField 1 = .ok (.getfield 15, 3) := by decide +kernel
theorem dX0_isField_4 : decode cX0_isField 4 = .ok (.iconst 1, 1) := by decide +kernel
theorem dX0_isField_5 : decode cX0_isField 5 = .ok (.if_icmp .le 28, 3) := by decide +kernel
theorem dX0_isField_8 : decode cX0_isField 8 = .ok (.aload_n 0, 1) := by decide +kernel
theorem dX0_isField_9 : decode cX0_isField 9 = .ok (.getfield 15, 3) := by decide +kernel
theorem dX0_isField_12 : decode cX0_isField 12 = .ok (.iconst 4, 1) := by decide +kernel
theorem dX0_isField_13 : decode cX0_isField 13 = .ok (.irem, 1) := by decide +kernel
theorem dX0_isField_14 : decode cX0_isField 14 = .ok (.iconst 1, 1) := by decide +kernel
theorem dX0_isField_15 : decode cX0_isField 15 = .ok (.if_icmp .ne 18, 3) := by decide +kernel
theorem dX0_isField_18 : decode cX0_isField 18 = .ok (.aload_n 0, 1) := by decide +kernel
theorem dX0_isField_19 : decode cX0_isField 19 = .ok (.invokevirtual 27, 3) := by decide +kernel
theorem dX0_isField_22 : decode cX0_isField 22 = .ok (.aload_n 0, 1) := by decide +kernel
theorem dX0_isField_23 : decode cX0_isField 23 = .ok (.getfield 15, 3) := by decide +kernel
theorem dX0_isField_26 : decode cX0_isField 26 = .ok (.if_icmp .ne 7, 3) := by decide +kernel
theorem dX0_isField_29 : decode cX0_isField 29 = .ok (.iconst 1, 1) := by decide +kernel
theorem dX0_isField_30 : decode cX0_isField 30 = .ok (.goto 4, 3) := by decide +kernel
theorem dX0_isField_33 : decode cX0_isField 33 = .ok (.iconst 0, 1) := by decide +kernel
theorem dX0_isField_34 : decode cX0_isField 34 = .ok (.ireturn, 1) := by decide +kernel
theorem dX1_init_0 : decode cX1_init 0 = .ok (.aload_n 0, 1) := by decide +kernel
theorem dX1_init_1 : decode cX1_init 1 = .ok (.invokespecial 3, 3) := by decide +kernel
theorem dX1_init_4 : decode cX1_init 4 = .ok (.aload_n 0, 1) := by decide +kernel
theorem dX1_init_5 : decode cX1_init 5 = .ok (.bipush 15, 2) := by decide +kernel
theorem dX1_init_7 : decode cX1_init 7 = .ok (.newarray .int, 2) := by decide +kernel
theorem dX1_init_9 : decode cX1_init 9 = .ok (.putfield 9, 3) := by decide +kernel
theorem dX1_init_12 : decode cX1_init 12 = .ok (.aload_n 0, 1) := by decide +kernel
theorem dX1_init_13 : decode cX1_init 13 = .ok (.iload_n 1, 1) := by decide +kernel
theorem dX1_init_14 : decode cX1_init 14 = .ok (.putfield 15, 3) := by decide +kernel
theorem dX1_init_17 : decode cX1_init 17 = .ok (.return_, 1) := by decide +kernel
theorem dX1_moveAt_0 : decode cX1_moveAt 0 = .ok (.iload_n 1, 1) := by decide +kernel
theorem dX1_moveAt_1 : decode cX1_moveAt 1 = .ok (.ifCond .lt 29, 3) := by decide +kernel
theorem dX1_moveAt_4 : decode cX1_moveAt 4 = .ok (.iload_n 1, 1) := by decide +kernel
theorem dX1_moveAt_5 : decode cX1_moveAt 5 = .ok (.aload_n 0, 1) := by decide +kernel
theorem dX1_moveAt_6 : decode cX1_moveAt 6 = .ok (.getfield 19, 3) := by decide +kernel
theorem dX1_moveAt_9 : decode cX1_moveAt 9 = .ok (.if_icmp .ge 21, 3) := by decide +kernel
theorem dX1_moveAt_12 : decode cX1_moveAt 12 = .ok (.iload_n 1, 1) := by decide +kernel
theorem dX1_moveAt_13 : decode cX1_moveAt 13 = .ok (.aload_n 0, 1) := by decide +kernel
theorem dX1_moveAt_14 : decode cX1_moveAt 14 = .ok (.getfield 9, 3) := by decide +kernel
theorem dX1_moveAt_17 : decode cX1_moveAt 17 = .ok (.arraylength, 1) := by decide +kernel
theorem dX1_moveAt_18 : decode cX1_moveAt 18 = .ok (.if_icmp .ge 12, 3) := by decide +kernel
theorem dX1_moveAt_21 : decode cX1_moveAt 21 = .ok (.aload_n 0, 1) := by decide +kernel
theorem dX1_moveAt_22 : decode cX1_moveAt 22 = .ok (.getfield 9, 3) := by decide +kernel
theorem dX1_moveAt_25 : decode cX1_moveAt 25 = .ok (.iload_n 1, 1) := by decide +kernel
theorem dX1_moveAt_26 : decode cX1_moveAt 26 = .ok (.iaload, 1) := by decide +kernel
theorem dX1_moveAt_27 : decode cX1_moveAt 27 = .ok (.goto 6, 3) := by decide +kernel
theorem dX1_moveAt_30 : decode cX1_moveAt 30 = .ok (.sipush (-1001), 3) := by decide +kernel
theorem dX1_moveAt_33 : decode cX1_moveAt 33 = .ok (.ireturn, 1) := by decide +kernel
theorem dX2_init_0 : decode cX2_init 0 = .ok (.aload_n 0, 1) := by decide +kernel
theorem dX2_init_1 : decode cX2_init 1 = .ok (.invokespecial 3, 3) := by decide +kernel
theorem dX2_init_4 : decode cX2_init 4 = .ok (.aload_n 0, 1) := by decide +kernel
theorem dX2_init_5 : decode cX2_init 5 = .ok (.new 9, 3) := by decide +kernel
theorem dX2_init_8 : decode cX2_init 8 = .ok (.dup, 1) := by decide +kernel
theorem dX2_init_9 : decode cX2_init 9 = .ok (.iconst 0, 1) := by decide +kernel
theorem dX2_init_10 : decode cX2_init 10 = .ok (.invokespecial 11, 3) := by decide +kernel
theorem dX2_init_13 : decode cX2_init 13 = .ok (.putfield 14, 3) := by decide +kernel
theorem dX2_init_16 : decode cX2_init 16 = .ok (.aload_n 0, 1) := by decide +kernel
theorem dX2_init_17 : decode cX2_init 17 = .ok (.new 9, 3) := by decide +kernel
theorem dX2_init_20 : decode cX2_init 20 = .ok (.dup, 1) := by decide +kernel
theorem dX2_init_21 : decode cX2_init 21 = .ok (.iconst 1, 1) := by decide +kernel
theorem dX2_init_22 : decode cX2_init 22 = .ok (.invokespecial 11, 3) := by decide +kernel
theorem dX2_init_25 : decode cX2_init 25 = .ok (.putfield 20, 3) := by decide +kernel
theorem dX2_init_28 : decode cX2_init 28 = .ok (.aload_n 0, 1) := by decide +kernel
theorem dX2_init_29 : decode cX2_init 29 = .ok (.sipush 3125, 3) := by decide +kernel
theorem dX2_init_32 : decode cX2_init 32 = .ok (.newarray .int, 2) := by decide +kernel
theorem dX2_init_34 : decode cX2_init 34 = .ok (.putfield 23, 3) := by decide +kernel
theorem dX2_init_37 : decode cX2_init 37 = .ok (.return_, 1) := by decide +kernel
theorem dX2_forget_0 : decode cX2_forget 0 = .ok (.aload_n 0, 1) := by decide +kernel
theorem dX2_forget_1 : decode cX2_forget 1 = .ok (.getfield 14, 3) := by decide +kernel
theorem dX2_forget_4 : decode cX2_forget 4 = .ok (.iconst 0, 1) := by decide +kernel
theorem dX2_forget_5 : decode cX2_forget 5 = .ok (.putfield 27, 3) := by decide +kernel
theorem dX2_forget_8 : decode cX2_forget 8 = .ok (.aload_n 0, 1) := by decide +kernel
theorem dX2_forget_9 : decode cX2_forget 9 = .ok (.getfield 14, 3) := by decide +kernel
theorem dX2_forget_12 : decode cX2_forget 12 = .ok (.iconst 0, 1) := by decide +kernel
theorem dX2_forget_13 : decode cX2_forget 13 = .ok (.putfield 31, 3) := by decide +kernel
theorem dX2_forget_16 : decode cX2_forget 16 = .ok (.aload_n 0, 1) := by decide +kernel
theorem dX2_forget_17 : decode cX2_forget 17 = .ok (.getfield 20, 3) := by decide +kernel
theorem dX2_forget_20 : decode cX2_forget 20 = .ok (.iconst 0, 1) := by decide +kernel
theorem dX2_forget_21 : decode cX2_forget 21 = .ok (.putfield 27, 3) := by decide +kernel
theorem dX2_forget_24 : decode cX2_forget 24 = .ok (.aload_n 0, 1) := by decide +kernel
theorem dX2_forget_25 : decode cX2_forget 25 = .ok (.getfield 20, 3) := by decide +kernel
theorem dX2_forget_28 : decode cX2_forget 28 = .ok (.iconst 0, 1) := by decide +kernel
theorem dX2_forget_29 : decode cX2_forget 29 = .ok (.putfield 31, 3) := by decide +kernel
theorem dX2_forget_32 : decode cX2_forget 32 = .ok (.return_, 1) := by decide +kernel
theorem dX2_planWithBest_0 : decode cX2_planWithBest 0 = .ok (.iload_n 2, 1) := by decide +kernel
theorem dX2_planWithBest_1 : decode cX2_planWithBest 1 = .ok (.ifCond .eq 10, 3) := by decide +kernel
theorem dX2_planWithBest_4 : decode cX2_planWithBest 4 = .ok (.aload_n 0, 1) := by decide +kernel
theorem dX2_planWithBest_5 : decode cX2_planWithBest 5 = .ok (.getfield 20, 3) := by decide +kernel
theorem dX2_planWithBest_8 : decode cX2_planWithBest 8 = .ok (.goto 7, 3) := by decide +kernel
theorem dX2_planWithBest_11 : decode cX2_planWithBest 11 = .ok (.aload_n 0, 1) := by decide +kernel
theorem dX2_planWithBest_12 : decode cX2_planWithBest 12 = .ok (.getfield 14, 3) := by decide +kernel
theorem dX2_planWithBest_15 : decode cX2_planWithBest 15 = .ok (.astore_n 3, 1) := by decide +kernel
theorem dX2_planWithBest_16 : decode cX2_planWithBest 16 = .ok (.aload_n 3, 1) := by decide +kernel
theorem dX2_planWithBest_17 : decode cX2_planWithBest 17 = .ok (.getfield 27, 3) := by decide +kernel
theorem dX2_planWithBest_20 : decode cX2_planWithBest 20 = .ok (.ifCond .ne 14, 3) := by decide +kernel
theorem dX2_planWithBest_23 : decode cX2_planWithBest 23 = .ok (.aload_n 0, 1) := by decide +kernel
theorem dX2_planWithBest_24 : decode cX2_planWithBest 24 = .ok (.aload_n 1, 1) := by decide +kernel
theorem dX2_planWithBest_25 : decode cX2_planWithBest 25 = .ok (.aload_n 3, 1) := by decide +kernel
theorem dX2_planWithBest_26 : decode cX2_planWithBest 26 = .ok (.invokevirtual 34, 3) := by decide +kernel
theorem dX2_planWithBest_29 : decode cX2_planWithBest 29 = .ok (.aload_n 3, 1) := by decide +kernel
theorem dX2_planWithBest_30 : decode cX2_planWithBest 30 = .ok (.iconst 1, 1) := by decide +kernel
theorem dX2_planWithBest_31 : decode cX2_planWithBest 31 = .ok (.putfield 27, 3) := by decide +kernel
theorem dX2_planWithBest_34 : decode cX2_planWithBest 34 = .ok (.aload_n 3, 1) := by decide +kernel
theorem dX2_planWithBest_35 : decode cX2_planWithBest 35 = .ok (.areturn, 1) := by decide +kernel
theorem dX2_planWithChange_0 : decode cX2_planWithChange 0 = .ok (.iload_n 2, 1) := by decide +kernel
theorem dX2_planWithChange_1 : decode cX2_planWithChange 1 = .ok (.ifCond .eq 10, 3) := by decide +kernel
theorem dX2_planWithChange_4 : decode cX2_planWithChange 4 = .ok (.aload_n 0, 1) := by decide +kernel
theorem dX2_planWithChange_5 : decode cX2_planWithChange 5 = .ok (.getfield 20, 3) := by decide +kernel
theorem dX2_planWithChange_8 : decode cX2_planWithChange 8 = .ok (.goto 7, 3) := by decide +kernel
theorem dX2_planWithChange_11 : decode cX2_planWithChange 11 = .ok (.aload_n 0, 1) := by decide +kernel
theorem dX2_planWithChange_12 : decode cX2_planWithChange 12 = .ok (.getfield 14, 3) := by decide +kernel
theorem dX2_planWithChange_15 : decode cX2_planWithChange 15 = .ok (.astore_n 3, 1) := by decide +kernel
theorem dX2_planWithChange_16 : decode cX2_planWithChange 16 = .ok (.aload_n 3, 1) := by decide +kernel
theorem dX2_planWithChange_17 : decode cX2_planWithChange 17 = .ok (.getfield 31, 3) := by decide +kernel
theorem dX2_planWithChange_20 : decode cX2_planWithChange 20 = .ok (.ifCond .ne 25, 3) := by decide +kernel
theorem dX2_planWithChange_23 : decode cX2_planWithChange 23 = .ok (.aload_n 0, 1) := by decide +kernel
theorem dX2_planWithChange_24 : decode cX2_planWithChange 24 = .ok (.aload_n 1, 1) := by decide +kernel
theorem dX2_planWithChange_25 : decode cX2_planWithChange 25 = .ok (.aload_n 3, 1) := by decide +kernel
theorem dX2_planWithChange_26 : decode cX2_planWithChange 26 = .ok (.invokevirtual 34, 3) := by decide +kernel
theorem dX2_planWithChange_29 : decode cX2_planWithChange 29 = .ok (.aload_n 0, 1) := by decide +kernel
theorem dX2_planWithChange_30 : decode cX2_planWithChange 30 = .ok (.aload_n 1, 1) := by decide +kernel
theorem dX2_planWithChange_31 : decode cX2_planWithChange 31 = .ok (.aload_n 3, 1) := by decide +kernel
theorem dX2_planWithChange_32 : decode cX2_planWithChange 32 = .ok (.invokevirtual 38, 3) := by decide +kernel
theorem dX2_planWithChange_35 : decode cX2_planWithChange 35 = .ok (.aload_n 3, 1) := by decide +kernel
theorem dX2_planWithChange_36 : decode cX2_planWithChange 36 = .ok (.iconst 1, 1) := by decide +kernel
theorem dX2_planWithChange_37 : decode cX2_planWithChange 37 = .ok (.putfield 27, 3) := by decide +kernel
theorem dX2_planWithChange_40 : decode cX2_planWithChange 40 = .ok (.aload_n 3, 1) := by decide +kernel
theorem dX2_planWithChange_41 : decode cX2_planWithChange 41 = .ok (.iconst 1, 1) := by decide +kernel
theorem dX2_planWithChange_42 : decode cX2_planWithChange 42 = .ok (.putfield 31, 3) := by decide +kernel
theorem dX2_planWithChange_45 : decode cX2_planWithChange 45 = .ok (.aload_n 3, 1) := by decide +kernel
theorem dX2_planWithChange_46 : decode cX2_planWithChange 46 = .ok (.areturn, 1) := by decide +kernel
theorem dX2_findBest_0 : decode cX2_findBest 0 = .ok (.aload_n 0, 1) := by decide +kernel
theorem dX2_findBest_1 : decode cX2_findBest 1 = .ok (.getfield 23, 3) := by decide +kernel
theorem dX2_findBest_4 : decode cX2_findBest 4 = .ok (.bipush (-2), 2) := by decide +kernel
theorem dX2_findBest_6 : decode cX2_findBest 6 = .ok (.invokestatic 41, 3) := by decide +kernel
theorem dX2_findBest_9 : decode cX2_findBest 9 = .ok (.aload_n 2, 1) := by decide +kernel
theorem dX2_findBest_10 : decode cX2_findBest 10 = .ok (.sipush (-1001), 3) := by decide +kernel
theorem dX2_findBest_13 : decode cX2_findBest 13 = .ok (.putfield 47, 3) := by decide +kernel
theorem dX2_findBest_16 : decode cX2_findBest 16 = .ok (.aload_n 2, 1) := by decide +kernel
theorem dX2_findBest_17 : decode cX2_findBest 17 = .ok (.iconst 0, 1) := by decide +kernel
theorem dX2_findBest_18 : decode cX2_findBest 18 = .ok (.putfield 51, 3) := by decide +kernel
theorem dX2_findBest_21 : decode cX2_findBest 21 = .ok (.aload_n 1, 1) := by decide +kernel
theorem dX2_findBest_22 : decode cX2_findBest 22 = .ok (.aload_n 2, 1) := by decide +kernel
theorem dX2_findBest_23 : decode cX2_findBest 23 = .ok (.aload_n 0, 1) := by decide +kernel
theorem dX2_findBest_24 : decode cX2_findBest 24 = .ok (.getfield 23, 3) := by decide +kernel
theorem dX2_findBest_27 : decode cX2_findBest 27 = .ok (.iconst 0, 1) := by decide +kernel
theorem dX2_findBest_28 : decode cX2_findBest 28 = .ok (.iconst 0, 1) := by decide +kernel
theorem dX2_findBest_29 : decode cX2_findBest 29 = .ok (.iconst 0, 1) := by decide +kernel
theorem dX2_findBest_30 : decode cX2_findBest 30 = .ok (.iconst 0, 1) := by decide +kernel
theorem dX2_findBest_31 : decode cX2_findBest 31 = .ok (.invokestatic 54, 3) := by decide +kernel
theorem dX2_findBest_34 : decode cX2_findBest 34 = .ok (.return_, 1) := by decide +kernel
theorem dX2_openFrom_0 : decode cX2_openFrom 0 = .ok (.aload_n 0, 1) := by decide +kernel
theorem dX2_openFrom_1 : decode cX2_openFrom 1 = .ok (.iload 5, 2) := by decide +kernel
theorem dX2_openFrom_3 : decode cX2_openFrom 3 = .ok (.invokevirtual 58, 3) := by decide +kernel
theorem dX2_openFrom_6 : decode cX2_openFrom 6 = .ok (.ifCond .ne 4, 3) := by decide +kernel
theorem dX2_openFrom_9 : decode cX2_openFrom 9 = .ok (.return_, 1) := by decide +kernel
theorem dX2_openFrom_10 : decode cX2_openFrom 10 = .ok (.aload_n 0, 1) := by decide +kernel
theorem dX2_openFrom_11 : decode cX2_openFrom 11 = .ok (.iload_n 3, 1) := by decide +kernel
theorem dX2_openFrom_12 : decode cX2_openFrom 12 = .ok (.invokevirtual 64, 3) := by decide +kernel
theorem dX2_openFrom_15 : decode cX2_openFrom 15 = .ok (.ifCond .ne 13, 3) := by decide +kernel
theorem dX2_openFrom_18 : decode cX2_openFrom 18 = .ok (.aload_n 1, 1) := by decide +kernel
theorem dX2_openFrom_19 : decode cX2_openFrom 19 = .ok (.aload_n 2, 1) := by decide +kernel
theorem dX2_openFrom_20 : decode cX2_openFrom 20 = .ok (.iload 4, 2) := by decide +kernel
theorem dX2_openFrom_22 : decode cX2_openFrom 22 = .ok (.iload 6, 2) := by decide +kernel
theorem dX2_openFrom_24 : decode cX2_openFrom 24 = .ok (.invokestatic 67, 3) := by decide +kernel
theorem dX2_openFrom_27 : decode cX2_openFrom 27 = .ok (.return_, 1) := by decide +kernel
theorem dX2_openFrom_28 : decode cX2_openFrom 28 = .ok (.aload_n 0, 1) := by decide +kernel
theorem dX2_openFrom_29 : decode cX2_openFrom 29 = .ok (.iload_n 3, 1) := by decide +kernel
theorem dX2_openFrom_30 : decode cX2_openFrom 30 = .ok (.invokevirtual 71, 3) := by decide +kernel
theorem dX2_openFrom_33 : decode cX2_openFrom 33 = .ok (.istore 7, 2) := by decide +kernel
theorem dX2_openFrom_35 : decode cX2_openFrom 35 = .ok (.iconst (-1), 1) := by decide +kernel
theorem dX2_openFrom_36 : decode cX2_openFrom 36 = .ok (.istore 8, 2) := by decide +kernel
theorem dX2_openFrom_38 : decode cX2_openFrom 38 = .ok (.iload 8, 2) := by decide +kernel
theorem dX2_openFrom_40 : decode cX2_openFrom 40 = .ok (.aload_n 0, 1) := by decide +kernel
theorem dX2_openFrom_41 : decode cX2_openFrom 41 = .ok (.getfield 74, 3) := by decide +kernel
theorem dX2_openFrom_44 : decode cX2_openFrom 44 = .ok (.if_icmp .ge 110, 3) := by decide +kernel
theorem dX2_openFrom_47 : decode cX2_openFrom 47 = .ok (.aload_n 0, 1) := by decide +kernel
theorem dX2_openFrom_48 : decode cX2_openFrom 48 = .ok (.iload_n 3, 1) := by decide +kernel
theorem dX2_openFrom_49 : decode cX2_openFrom 49 = .ok (.invokevirtual 77, 3) := by decide +kernel
theorem dX2_openFrom_52 : decode cX2_openFrom 52 = .ok (.ifCond .eq 17, 3) := by decide +kernel
theorem dX2_openFrom_55 : decode cX2_openFrom 55 = .ok (.iload 8, 2) := by decide +kernel
theorem dX2_openFrom_57 : decode cX2_openFrom 57 = .ok (.aload_n 0, 1) := by decide +kernel
theorem dX2_openFrom_58 : decode cX2_openFrom 58 = .ok (.getfield 80, 3) := by decide +kernel
theorem dX2_openFrom_61 : decode cX2_openFrom 61 = .ok (.iload_n 3, 1) := by decide +kernel
theorem dX2_openFrom_62 : decode cX2_openFrom 62 = .ok (.iaload, 1) := by decide +kernel
theorem dX2_openFrom_63 : decode cX2_openFrom 63 = .ok (.if_icmp .eq 6, 3) := by decide +kernel
theorem dX2_openFrom_66 : decode cX2_openFrom 66 = .ok (.goto 82, 3) := by decide +kernel
theorem dX2_openFrom_69 : decode cX2_openFrom 69 = .ok (.aload_n 0, 1) := by decide +kernel
theorem dX2_openFrom_70 : decode cX2_openFrom 70 = .ok (.iload_n 3, 1) := by decide +kernel
theorem dX2_openFrom_71 : decode cX2_openFrom 71 = .ok (.iload 8, 2) := by decide +kernel
theorem dX2_openFrom_73 : decode cX2_openFrom 73 = .ok (.invokevirtual 83, 3) := by decide +kernel
theorem dX2_openFrom_76 : decode cX2_openFrom 76 = .ok (.istore 9, 2) := by decide +kernel
theorem dX2_openFrom_78 : decode cX2_openFrom 78 = .ok (.iload 7, 2) := by decide +kernel
theorem dX2_openFrom_80 : decode cX2_openFrom 80 = .ok (.ifCond .eq 15, 3) := by decide +kernel
theorem dX2_openFrom_83 : decode cX2_openFrom 83 = .ok (.aload_n 1, 1) := by decide +kernel
theorem dX2_openFrom_84 : decode cX2_openFrom 84 = .ok (.getfield 87, 3) := by decide +kernel
theorem dX2_openFrom_87 : decode cX2_openFrom 87 = .ok (.ifCond .ne 8, 3) := by decide +kernel
theorem dX2_openFrom_90 : decode cX2_openFrom 90 = .ok (.iload 5, 2) := by decide +kernel
theorem dX2_openFrom_92 : decode cX2_openFrom 92 = .ok (.goto 8, 3) := by decide +kernel
theorem dX2_openFrom_95 : decode cX2_openFrom 95 = .ok (.iload 5, 2) := by decide +kernel
theorem dX2_openFrom_97 : decode cX2_openFrom 97 = .ok (.iload 9, 2) := by decide +kernel
theorem dX2_openFrom_99 : decode cX2_openFrom 99 = .ok (.iadd, 1) := by decide +kernel
theorem dX2_openFrom_100 : decode cX2_openFrom 100 = .ok (.istore 10, 2) := by decide +kernel
theorem dX2_openFrom_102 : decode cX2_openFrom 102 = .ok (.iload 7, 2) := by decide +kernel
theorem dX2_openFrom_104 : decode cX2_openFrom 104 = .ok (.ifCond .eq 8, 3) := by decide +kernel
theorem dX2_openFrom_107 : decode cX2_openFrom 107 = .ok (.iload 6, 2) := by decide +kernel
theorem dX2_openFrom_109 : decode cX2_openFrom 109 = .ok (.goto 11, 3) := by decide +kernel
theorem dX2_openFrom_112 : decode cX2_openFrom 112 = .ok (.iload 6, 2) := by decide +kernel
theorem dX2_openFrom_114 : decode cX2_openFrom 114 = .ok (.iload 9, 2) := by decide +kernel
theorem dX2_openFrom_116 : decode cX2_openFrom 116 = .ok (.invokestatic 90, 3) := by decide +kernel
theorem dX2_openFrom_119 : decode cX2_openFrom 119 = .ok (.iadd, 1) := by decide +kernel
theorem dX2_openFrom_120 : decode cX2_openFrom 120 = .ok (.istore 11, 2) := by decide +kernel
theorem dX2_openFrom_122 : decode cX2_openFrom 122 = .ok (.aload_n 0, 1) := by decide +kernel
theorem dX2_openFrom_123 : decode cX2_openFrom 123 = .ok (.aload_n 1, 1) := by decide +kernel
theorem dX2_openFrom_124 : decode cX2_openFrom 124 = .ok (.aload_n 2, 1) := by decide +kernel
theorem dX2_openFrom_125 : decode cX2_openFrom 125 = .ok (.iload_n 3, 1) := by decide +kernel
theorem dX2_openFrom_126 : decode cX2_openFrom 126 = .ok (.iconst 1, 1) := by decide +kernel
theorem dX2_openFrom_127 : decode cX2_openFrom 127 = .ok (.iadd, 1) := by decide +kernel
theorem dX2_openFrom_128 : decode cX2_openFrom 128 = .ok (.iload 4, 2) := by decide +kernel
theorem dX2_openFrom_130 : decode cX2_openFrom 130 = .ok (.iload 8, 2) := by decide +kernel
theorem dX2_openFrom_132 : decode cX2_openFrom 132 = .ok (.iconst 1, 1) := by decide +kernel
theorem dX2_openFrom_133 : decode cX2_openFrom 133 = .ok (.iadd, 1) := by decide +kernel
theorem dX2_openFrom_134 : decode cX2_openFrom 134 = .ok (.getstatic 94, 3) := by decide +kernel
theorem dX2_openFrom_137 : decode cX2_openFrom 137 = .ok (.iload_n 3, 1) := by decide +kernel
theorem dX2_openFrom_138 : decode cX2_openFrom 138 = .ok (.iaload, 1) := by decide +kernel
theorem dX2_openFrom_139 : decode cX2_openFrom 139 = .ok (.imul, 1) := by decide +kernel
theorem dX2_openFrom_140 : decode cX2_openFrom 140 = .ok (.iadd, 1) := by decide +kernel
theorem dX2_openFrom_141 : decode cX2_openFrom 141 = .ok (.iload 10, 2) := by decide +kernel
theorem dX2_openFrom_143 : decode cX2_openFrom 143 = .ok (.iload 11, 2) := by decide +kernel
theorem dX2_openFrom_145 : decode cX2_openFrom 145 = .ok (.invokestatic 54, 3) := by decide +kernel
theorem dX2_openFrom_148 : decode cX2_openFrom 148 = .ok (.iinc 8 1, 3) := by decide +kernel
theorem dX2_openFrom_151 : decode cX2_openFrom 151 = .ok (.goto (-113), 3) := by decide +kernel
theorem dX2_openFrom_154 : decode cX2_openFrom 154 = .ok (.return_, 1) := by decide +kernel
theorem dX2_open_0 : decode cX2_open 0 = .ok (.iload_n 2, 1) := by decide +kernel
theorem dX2_open_1 : decode cX2_open 1 = .ok (.ifCond .lt 9, 3) := by decide +kernel
theorem dX2_open_4 : decode cX2_open 4 = .ok (.iload_n 2, 1) := by decide +kernel
theorem dX2_open_5 : decode cX2_open 5 = .ok (.aload_n 1, 1) := by decide +kernel
theorem dX2_open_6 : decode cX2_open 6 = .ok (.arraylength, 1) := by decide +kernel
theorem dX2_open_7 : decode cX2_open 7 = .ok (.if_icmp .lt 4, 3) := by decide +kernel
theorem dX2_open_10 : decode cX2_open 10 = .ok (.return_, 1) := by decide +kernel
theorem dX2_open_11 : decode cX2_open 11 = .ok (.aload_n 1, 1) := by decide +kernel
theorem dX2_open_12 : decode cX2_open 12 = .ok (.iload_n 2, 1) := by decide +kernel
theorem dX2_open_13 : decode cX2_open 13 = .ok (.iconst (-1), 1) := by decide +kernel
theorem dX2_open_14 : decode cX2_open 14 = .ok (.iastore, 1) := by decide +kernel
theorem dX2_open_15 : decode cX2_open 15 = .ok (.iload_n 3, 1) := by decide +kernel
theorem dX2_open_16 : decode cX2_open 16 = .ok (.aload_n 0, 1) := by decide +kernel
theorem dX2_open_17 : decode cX2_open 17 = .ok (.getfield 47, 3) := by decide +kernel
theorem dX2_open_20 : decode cX2_open 20 = .ok (.if_icmp .le 13, 3) := by decide +kernel
theorem dX2_open_23 : decode cX2_open 23 = .ok (.aload_n 0, 1) := by decide +kernel
theorem dX2_open_24 : decode cX2_open 24 = .ok (.iload_n 3, 1) := by decide +kernel
theorem dX2_open_25 : decode cX2_open 25 = .ok (.putfield 47, 3) := by decide +kernel
theorem dX2_open_28 : decode cX2_open 28 = .ok (.aload_n 0, 1) := by decide +kernel
theorem dX2_open_29 : decode cX2_open 29 = .ok (.iload_n 2, 1) := by decide +kernel
theorem dX2_open_30 : decode cX2_open 30 = .ok (.putfield 51, 3) := by decide +kernel
theorem dX2_open_33 : decode cX2_open 33 = .ok (.return_, 1) := by decide +kernel
theorem dX2_wayFrom_0 : decode cX2_wayFrom 0 = .ok (.iload_n 1, 1) := by decide +kernel
theorem dX2_wayFrom_1 : decode cX2_wayFrom 1 = .ok (.ifCond .lt 21, 3) := by decide +kernel
theorem dX2_wayFrom_4 : decode cX2_wayFrom 4 = .ok (.iload_n 1, 1) := by decide +kernel
theorem dX2_wayFrom_5 : decode cX2_wayFrom 5 = .ok (.aload_n 0, 1) := by decide +kernel
theorem dX2_wayFrom_6 : decode cX2_wayFrom 6 = .ok (.getfield 23, 3) := by decide +kernel
theorem dX2_wayFrom_9 : decode cX2_wayFrom 9 = .ok (.arraylength, 1) := by decide +kernel
theorem dX2_wayFrom_10 : decode cX2_wayFrom 10 = .ok (.if_icmp .ge 12, 3) := by decide +kernel
theorem dX2_wayFrom_13 : decode cX2_wayFrom 13 = .ok (.aload_n 0, 1) := by decide +kernel
theorem dX2_wayFrom_14 : decode cX2_wayFrom 14 = .ok (.getfield 23, 3) := by decide +kernel
theorem dX2_wayFrom_17 : decode cX2_wayFrom 17 = .ok (.iload_n 1, 1) := by decide +kernel
theorem dX2_wayFrom_18 : decode cX2_wayFrom 18 = .ok (.iaload, 1) := by decide +kernel
theorem dX2_wayFrom_19 : decode cX2_wayFrom 19 = .ok (.goto 5, 3) := by decide +kernel
theorem dX2_wayFrom_22 : decode cX2_wayFrom 22 = .ok (.bipush (-2), 2) := by decide +kernel
theorem dX2_wayFrom_24 : decode cX2_wayFrom 24 = .ok (.ireturn, 1) := by decide +kernel
theorem dX2_setWay_0 : decode cX2_setWay 0 = .ok (.iload_n 1, 1) := by decide +kernel
theorem dX2_setWay_1 : decode cX2_setWay 1 = .ok (.ifCond .lt 19, 3) := by decide +kernel
theorem dX2_setWay_4 : decode cX2_setWay 4 = .ok (.iload_n 1, 1) := by decide +kernel
theorem dX2_setWay_5 : decode cX2_setWay 5 = .ok (.aload_n 0, 1) := by decide +kernel
theorem dX2_setWay_6 : decode cX2_setWay 6 = .ok (.getfield 23, 3) := by decide +kernel
theorem dX2_setWay_9 : decode cX2_setWay 9 = .ok (.arraylength, 1) := by decide +kernel
theorem dX2_setWay_10 : decode cX2_setWay 10 = .ok (.if_icmp .ge 10, 3) := by decide +kernel
theorem dX2_setWay_13 : decode cX2_setWay 13 = .ok (.aload_n 0, 1) := by decide +kernel
theorem dX2_setWay_14 : decode cX2_setWay 14 = .ok (.getfield 23, 3) := by decide +kernel
theorem dX2_setWay_17 : decode cX2_setWay 17 = .ok (.iload_n 1, 1) := by decide +kernel
theorem dX2_setWay_18 : decode cX2_setWay 18 = .ok (.iload_n 2, 1) := by decide +kernel
theorem dX2_setWay_19 : decode cX2_setWay 19 = .ok (.iastore, 1) := by decide +kernel
theorem dX2_setWay_20 : decode cX2_setWay 20 = .ok (.return_, 1) := by decide +kernel
theorem dX2_findChange_0 : decode cX2_findChange 0 = .ok (.aload_n 2, 1) := by decide +kernel
theorem dX2_findChange_1 : decode cX2_findChange 1 = .ok (.sipush (-1001), 3) := by decide +kernel
theorem dX2_findChange_4 : decode cX2_findChange 4 = .ok (.putfield 97, 3) := by decide +kernel
theorem dX2_findChange_7 : decode cX2_findChange 7 = .ok (.aload_n 2, 1) := by decide +kernel
theorem dX2_findChange_8 : decode cX2_findChange 8 = .ok (.getfield 47, 3) := by decide +kernel
theorem dX2_findChange_11 : decode cX2_findChange 11 = .ok (.sipush (-1001), 3) := by decide +kernel
theorem dX2_findChange_14 : decode cX2_findChange 14 = .ok (.if_icmp .ne 4, 3) := by decide +kernel
theorem dX2_findChange_17 : decode cX2_findChange 17 = .ok (.return_, 1) := by decide +kernel
theorem dX2_findChange_18 : decode cX2_findChange 18 = .ok (.aload_n 1, 1) := by decide +kernel
theorem dX2_findChange_19 : decode cX2_findChange 19 = .ok (.invokevirtual 100, 3) := by decide +kernel
theorem dX2_findChange_22 : decode cX2_findChange 22 = .ok (.istore_n 3, 1) := by decide +kernel
theorem dX2_findChange_23 : decode cX2_findChange 23 = .ok (.aload_n 0, 1) := by decide +kernel
theorem dX2_findChange_24 : decode cX2_findChange 24 = .ok (.iload_n 3, 1) := by decide +kernel
theorem dX2_findChange_25 : decode cX2_findChange 25 = .ok (.iconst (-1), 1) := by decide +kernel
theorem dX2_findChange_26 : decode cX2_findChange 26 = .ok (.invokevirtual 104, 3) := by decide +kernel
theorem dX2_findChange_29 : decode cX2_findChange 29 = .ok (.aload_n 0, 1) := by decide +kernel
theorem dX2_findChange_30 : decode cX2_findChange 30 = .ok (.aload_n 2, 1) := by decide +kernel
theorem dX2_findChange_31 : decode cX2_findChange 31 = .ok (.getfield 51, 3) := by decide +kernel
theorem dX2_findChange_34 : decode cX2_findChange 34 = .ok (.iconst 0, 1) := by decide +kernel
theorem dX2_findChange_35 : decode cX2_findChange 35 = .ok (.invokevirtual 104, 3) := by decide +kernel
theorem dX2_findChange_38 : decode cX2_findChange 38 = .ok (.iconst 1, 1) := by decide +kernel
theorem dX2_findChange_39 : decode cX2_findChange 39 = .ok (.istore 4, 2) := by decide +kernel
theorem dX2_findChange_41 : decode cX2_findChange 41 = .ok (.iconst 0, 1) := by decide +kernel
theorem dX2_findChange_42 : decode cX2_findChange 42 = .ok (.istore 5, 2) := by decide +kernel
theorem dX2_findChange_44 : decode cX2_findChange 44 = .ok (.iload 5, 2) := by decide +kernel
theorem dX2_findChange_46 : decode cX2_findChange 46 = .ok (.aload_n 1, 1) := by decide +kernel
theorem dX2_findChange_47 : decode cX2_findChange 47 = .ok (.getfield 108, 3) := by decide +kernel
theorem dX2_findChange_50 : decode cX2_findChange 50 = .ok (.if_icmp .ge 32, 3) := by decide +kernel
theorem dX2_findChange_53 : decode cX2_findChange 53 = .ok (.iload 4, 2) := by decide +kernel
theorem dX2_findChange_55 : decode cX2_findChange 55 = .ok (.ifCond .eq 27, 3) := by decide +kernel
theorem dX2_findChange_58 : decode cX2_findChange 58 = .ok (.aload_n 0, 1) := by decide +kernel
theorem dX2_findChange_59 : decode cX2_findChange 59 = .ok (.iload_n 3, 1) := by decide +kernel
theorem dX2_findChange_60 : decode cX2_findChange 60 = .ok (.invokevirtual 111, 3) := by decide +kernel
theorem dX2_findChange_63 : decode cX2_findChange 63 = .ok (.iconst (-1), 1) := by decide +kernel
theorem dX2_findChange_64 : decode cX2_findChange 64 = .ok (.if_icmp .ne 18, 3) := by decide +kernel
theorem dX2_findChange_67 : decode cX2_findChange 67 = .ok (.aload_n 0, 1) := by decide +kernel
theorem dX2_findChange_68 : decode cX2_findChange 68 = .ok (.aload_n 1, 1) := by decide +kernel
theorem dX2_findChange_69 : decode cX2_findChange 69 = .ok (.iload 5, 2) := by decide +kernel
theorem dX2_findChange_71 : decode cX2_findChange 71 = .ok (.invokevirtual 114, 3) := by decide +kernel
theorem dX2_findChange_74 : decode cX2_findChange 74 = .ok (.istore 4, 2) := by decide +kernel
theorem dX2_findChange_76 : decode cX2_findChange 76 = .ok (.iinc 5 1, 3) := by decide +kernel
theorem dX2_findChange_79 : decode cX2_findChange 79 = .ok (.goto (-35), 3) := by decide +kernel
theorem dX2_findChange_82 : decode cX2_findChange 82 = .ok (.aload_n 0, 1) := by decide +kernel
theorem dX2_findChange_83 : decode cX2_findChange 83 = .ok (.iload_n 3, 1) := by decide +kernel
theorem dX2_findChange_84 : decode cX2_findChange 84 = .ok (.invokevirtual 111, 3) := by decide +kernel
theorem dX2_findChange_87 : decode cX2_findChange 87 = .ok (.ifCond .lt 19, 3) := by decide +kernel
theorem dX2_findChange_90 : decode cX2_findChange 90 = .ok (.aload_n 2, 1) := by decide +kernel
theorem dX2_findChange_91 : decode cX2_findChange 91 = .ok (.aload_n 0, 1) := by decide +kernel
theorem dX2_findChange_92 : decode cX2_findChange 92 = .ok (.iload_n 3, 1) := by decide +kernel
theorem dX2_findChange_93 : decode cX2_findChange 93 = .ok (.invokevirtual 111, 3) := by decide +kernel
theorem dX2_findChange_96 : decode cX2_findChange 96 = .ok (.putfield 97, 3) := by decide +kernel
theorem dX2_findChange_99 : decode cX2_findChange 99 = .ok (.aload_n 0, 1) := by decide +kernel
theorem dX2_findChange_100 : decode cX2_findChange 100 = .ok (.aload_n 1, 1) := by decide +kernel
theorem dX2_findChange_101 : decode cX2_findChange 101 = .ok (.aload_n 2, 1) := by decide +kernel
theorem dX2_findChange_102 : decode cX2_findChange 102 = .ok (.iload_n 3, 1) := by decide +kernel
theorem dX2_findChange_103 : decode cX2_findChange 103 = .ok (.invokevirtual 118, 3) := by decide +kernel
theorem dX2_findChange_106 : decode cX2_findChange 106 = .ok (.return_, 1) := by decide +kernel
theorem dX2_widen_0 : decode cX2_widen 0 = .ok (.iconst 0, 1) := by decide +kernel
theorem dX2_widen_1 : decode cX2_widen 1 = .ok (.istore_n 3, 1) := by decide +kernel
theorem dX2_widen_2 : decode cX2_widen 2 = .ok (.iconst 0, 1) := by decide +kernel
theorem dX2_widen_3 : decode cX2_widen 3 = .ok (.istore 4, 2) := by decide +kernel
theorem dX2_widen_5 : decode cX2_widen 5 = .ok (.iload 4, 2) := by decide +kernel
theorem dX2_widen_7 : decode cX2_widen 7 = .ok (.aload_n 1, 1) := by decide +kernel
theorem dX2_widen_8 : decode cX2_widen 8 = .ok (.getfield 108, 3) := by decide +kernel
theorem dX2_widen_11 : decode cX2_widen 11 = .ok (.if_icmp .ge 34, 3) := by decide +kernel
theorem dX2_widen_14 : decode cX2_widen 14 = .ok (.aload_n 0, 1) := by decide +kernel
theorem dX2_widen_15 : decode cX2_widen 15 = .ok (.iload 4, 2) := by decide +kernel
theorem dX2_widen_17 : decode cX2_widen 17 = .ok (.invokevirtual 111, 3) := by decide +kernel
theorem dX2_widen_20 : decode cX2_widen 20 = .ok (.iload_n 2, 1) := by decide +kernel
theorem dX2_widen_21 : decode cX2_widen 21 = .ok (.if_icmp .ne 18, 3) := by decide +kernel
theorem dX2_widen_24 : decode cX2_widen 24 = .ok (.aload_n 0, 1) := by decide +kernel
theorem dX2_widen_25 : decode cX2_widen 25 = .ok (.aload_n 1, 1) := by decide +kernel
theorem dX2_widen_26 : decode cX2_widen 26 = .ok (.iload 4, 2) := by decide +kernel
theorem dX2_widen_28 : decode cX2_widen 28 = .ok (.iload_n 2, 1) := by decide +kernel
theorem dX2_widen_29 : decode cX2_widen 29 = .ok (.iconst 1, 1) := by decide +kernel
theorem dX2_widen_30 : decode cX2_widen 30 = .ok (.iadd, 1) := by decide +kernel
theorem dX2_widen_31 : decode cX2_widen 31 = .ok (.invokevirtual 122, 3) := by decide +kernel
theorem dX2_widen_34 : decode cX2_widen 34 = .ok (.ifCond .eq 5, 3) := by decide +kernel
theorem dX2_widen_37 : decode cX2_widen 37 = .ok (.iconst 1, 1) := by decide +kernel
theorem dX2_widen_38 : decode cX2_widen 38 = .ok (.istore_n 3, 1) := by decide +kernel
theorem dX2_widen_39 : decode cX2_widen 39 = .ok (.iinc 4 1, 3) := by decide +kernel
theorem dX2_widen_42 : decode cX2_widen 42 = .ok (.goto (-37), 3) := by decide +kernel
theorem dX2_widen_45 : decode cX2_widen 45 = .ok (.iload_n 3, 1) := by decide +kernel
theorem dX2_widen_46 : decode cX2_widen 46 = .ok (.ireturn, 1) := by decide +kernel
theorem dX2_markBeside_0 : decode cX2_markBeside 0 = .ok (.iconst 0, 1) := by decide +kernel
theorem dX2_markBeside_1 : decode cX2_markBeside 1 = .ok (.istore 4, 2) := by decide +kernel
theorem dX2_markBeside_3 : decode cX2_markBeside 3 = .ok (.iload_n 2, 1) := by decide +kernel
theorem dX2_markBeside_4 : decode cX2_markBeside 4 = .ok (.istore 5, 2) := by decide +kernel
theorem dX2_markBeside_6 : decode cX2_markBeside 6 = .ok (.iconst 0, 1) := by decide +kernel
theorem dX2_markBeside_7 : decode cX2_markBeside 7 = .ok (.istore 6, 2) := by decide +kernel
theorem dX2_markBeside_9 : decode cX2_markBeside 9 = .ok (.iload 6, 2) := by decide +kernel
theorem dX2_markBeside_11 : decode cX2_markBeside 11 = .ok (.aload_n 1, 1) := by decide +kernel
theorem dX2_markBeside_12 : decode cX2_markBeside 12 = .ok (.getfield 126, 3) := by decide +kernel
theorem dX2_markBeside_15 : decode cX2_markBeside 15 = .ok (.if_icmp .ge 79, 3) := by decide +kernel
theorem dX2_markBeside_18 : decode cX2_markBeside 18 = .ok (.iload_n 2, 1) := by decide +kernel
theorem dX2_markBeside_19 : decode cX2_markBeside 19 = .ok (.iload 5, 2) := by decide +kernel
theorem dX2_markBeside_21 : decode cX2_markBeside 21 = .ok (.iconst 5, 1) := by decide +kernel
theorem dX2_markBeside_22 : decode cX2_markBeside 22 = .ok (.irem, 1) := by decide +kernel
theorem dX2_markBeside_23 : decode cX2_markBeside 23 = .ok (.getstatic 94, 3) := by decide +kernel
theorem dX2_markBeside_26 : decode cX2_markBeside 26 = .ok (.iload 6, 2) := by decide +kernel
theorem dX2_markBeside_28 : decode cX2_markBeside 28 = .ok (.iaload, 1) := by decide +kernel
theorem dX2_markBeside_29 : decode cX2_markBeside 29 = .ok (.imul, 1) := by decide +kernel
theorem dX2_markBeside_30 : decode cX2_markBeside 30 = .ok (.isub, 1) := by decide +kernel
theorem dX2_markBeside_31 : decode cX2_markBeside 31 = .ok (.istore 7, 2) := by decide +kernel
theorem dX2_markBeside_33 : decode cX2_markBeside 33 = .ok (.iconst (-1), 1) := by decide +kernel
theorem dX2_markBeside_34 : decode cX2_markBeside 34 = .ok (.istore 8, 2) := by decide +kernel
theorem dX2_markBeside_36 : decode cX2_markBeside 36 = .ok (.iload 8, 2) := by decide +kernel
theorem dX2_markBeside_38 : decode cX2_markBeside 38 = .ok (.aload_n 1, 1) := by decide +kernel
theorem dX2_markBeside_39 : decode cX2_markBeside 39 = .ok (.getfield 74, 3) := by decide +kernel
theorem dX2_markBeside_42 : decode cX2_markBeside 42 = .ok (.if_icmp .ge 40, 3) := by decide +kernel
theorem dX2_markBeside_45 : decode cX2_markBeside 45 = .ok (.aload_n 0, 1) := by decide +kernel
theorem dX2_markBeside_46 : decode cX2_markBeside 46 = .ok (.iload 7, 2) := by decide +kernel
theorem dX2_markBeside_48 : decode cX2_markBeside 48 = .ok (.invokevirtual 111, 3) := by decide +kernel
theorem dX2_markBeside_51 : decode cX2_markBeside 51 = .ok (.iconst (-1), 1) := by decide +kernel
theorem dX2_markBeside_52 : decode cX2_markBeside 52 = .ok (.if_icmp .ne 13, 3) := by decide +kernel
theorem dX2_markBeside_55 : decode cX2_markBeside 55 = .ok (.aload_n 0, 1) := by decide +kernel
theorem dX2_markBeside_56 : decode cX2_markBeside 56 = .ok (.iload 7, 2) := by decide +kernel
theorem dX2_markBeside_58 : decode cX2_markBeside 58 = .ok (.iload_n 3, 1) := by decide +kernel
theorem dX2_markBeside_59 : decode cX2_markBeside 59 = .ok (.invokevirtual 104, 3) := by decide +kernel
theorem dX2_markBeside_62 : decode cX2_markBeside 62 = .ok (.iconst 1, 1) := by decide +kernel
theorem dX2_markBeside_63 : decode cX2_markBeside 63 = .ok (.istore 4, 2) := by decide +kernel
theorem dX2_markBeside_65 : decode cX2_markBeside 65 = .ok (.iload 7, 2) := by decide +kernel
theorem dX2_markBeside_67 : decode cX2_markBeside 67 = .ok (.getstatic 94, 3) := by decide +kernel
theorem dX2_markBeside_70 : decode cX2_markBeside 70 = .ok (.iload 6, 2) := by decide +kernel
theorem dX2_markBeside_72 : decode cX2_markBeside 72 = .ok (.iaload, 1) := by decide +kernel
theorem dX2_markBeside_73 : decode cX2_markBeside 73 = .ok (.iadd, 1) := by decide +kernel
theorem dX2_markBeside_74 : decode cX2_markBeside 74 = .ok (.istore 7, 2) := by decide +kernel
theorem dX2_markBeside_76 : decode cX2_markBeside 76 = .ok (.iinc 8 1, 3) := by decide +kernel
theorem dX2_markBeside_79 : decode cX2_markBeside 79 = .ok (.goto (-43), 3) := by decide +kernel
theorem dX2_markBeside_82 : decode cX2_markBeside 82 = .ok (.iload 5, 2) := by decide +kernel
theorem dX2_markBeside_84 : decode cX2_markBeside 84 = .ok (.iconst 5, 1) := by decide +kernel
theorem dX2_markBeside_85 : decode cX2_markBeside 85 = .ok (.idiv, 1) := by decide +kernel
theorem dX2_markBeside_86 : decode cX2_markBeside 86 = .ok (.istore 5, 2) := by decide +kernel
theorem dX2_markBeside_88 : decode cX2_markBeside 88 = .ok (.iinc 6 1, 3) := by decide +kernel
theorem dX2_markBeside_91 : decode cX2_markBeside 91 = .ok (.goto (-82), 3) := by decide +kernel
theorem dX2_markBeside_94 : decode cX2_markBeside 94 = .ok (.iload 4, 2) := by decide +kernel
theorem dX2_markBeside_96 : decode cX2_markBeside 96 = .ok (.ireturn, 1) := by decide +kernel
theorem dX2_noteMoves_0 : decode cX2_noteMoves 0 = .ok (.iload_n 3, 1) := by decide +kernel
theorem dX2_noteMoves_1 : decode cX2_noteMoves 1 = .ok (.istore 4, 2) := by decide +kernel
theorem dX2_noteMoves_3 : decode cX2_noteMoves 3 = .ok (.aload_n 2, 1) := by decide +kernel
theorem dX2_noteMoves_4 : decode cX2_noteMoves 4 = .ok (.getfield 97, 3) := by decide +kernel
theorem dX2_noteMoves_7 : decode cX2_noteMoves 7 = .ok (.aload_n 2, 1) := by decide +kernel
theorem dX2_noteMoves_8 : decode cX2_noteMoves 8 = .ok (.getfield 129, 3) := by decide +kernel
theorem dX2_noteMoves_11 : decode cX2_noteMoves 11 = .ok (.arraylength, 1) := by decide +kernel
theorem dX2_noteMoves_12 : decode cX2_noteMoves 12 = .ok (.invokestatic 132, 3) := by decide +kernel
theorem dX2_noteMoves_15 : decode cX2_noteMoves 15 = .ok (.istore 5, 2) := by decide +kernel
theorem dX2_noteMoves_17 : decode cX2_noteMoves 17 = .ok (.iconst 0, 1) := by decide +kernel
theorem dX2_noteMoves_18 : decode cX2_noteMoves 18 = .ok (.istore 6, 2) := by decide +kernel
theorem dX2_noteMoves_20 : decode cX2_noteMoves 20 = .ok (.iload 6, 2) := by decide +kernel
theorem dX2_noteMoves_22 : decode cX2_noteMoves 22 = .ok (.iload 5, 2) := by decide +kernel
theorem dX2_noteMoves_24 : decode cX2_noteMoves 24 = .ok (.if_icmp .ge 78, 3) := by decide +kernel
theorem dX2_noteMoves_27 : decode cX2_noteMoves 27 = .ok (.aload_n 0, 1) := by decide +kernel
theorem dX2_noteMoves_28 : decode cX2_noteMoves 28 = .ok (.aload_n 1, 1) := by decide +kernel
theorem dX2_noteMoves_29 : decode cX2_noteMoves 29 = .ok (.iload 4, 2) := by decide +kernel
theorem dX2_noteMoves_31 : decode cX2_noteMoves 31 = .ok (.aload_n 2, 1) := by decide +kernel
theorem dX2_noteMoves_32 : decode cX2_noteMoves 32 = .ok (.getfield 97, 3) := by decide +kernel
theorem dX2_noteMoves_35 : decode cX2_noteMoves 35 = .ok (.iload 6, 2) := by decide +kernel
theorem dX2_noteMoves_37 : decode cX2_noteMoves 37 = .ok (.isub, 1) := by decide +kernel
theorem dX2_noteMoves_38 : decode cX2_noteMoves 38 = .ok (.iconst 1, 1) := by decide +kernel
theorem dX2_noteMoves_39 : decode cX2_noteMoves 39 = .ok (.isub, 1) := by decide +kernel
theorem dX2_noteMoves_40 : decode cX2_noteMoves 40 = .ok (.invokevirtual 137, 3) := by decide +kernel
theorem dX2_noteMoves_43 : decode cX2_noteMoves 43 = .ok (.istore 7, 2) := by decide +kernel
theorem dX2_noteMoves_45 : decode cX2_noteMoves 45 = .ok (.iload 7, 2) := by decide +kernel
theorem dX2_noteMoves_47 : decode cX2_noteMoves 47 = .ok (.iconst 3, 1) := by decide +kernel
theorem dX2_noteMoves_48 : decode cX2_noteMoves 48 = .ok (.ishr, 1) := by decide +kernel
theorem dX2_noteMoves_49 : decode cX2_noteMoves 49 = .ok (.istore 8, 2) := by decide +kernel
theorem dX2_noteMoves_51 : decode cX2_noteMoves 51 = .ok (.aload_n 2, 1) := by decide +kernel
theorem dX2_noteMoves_52 : decode cX2_noteMoves 52 = .ok (.getfield 129, 3) := by decide +kernel
theorem dX2_noteMoves_55 : decode cX2_noteMoves 55 = .ok (.iload 6, 2) := by decide +kernel
theorem dX2_noteMoves_57 : decode cX2_noteMoves 57 = .ok (.iload 7, 2) := by decide +kernel
theorem dX2_noteMoves_59 : decode cX2_noteMoves 59 = .ok (.iastore, 1) := by decide +kernel
theorem dX2_noteMoves_60 : decode cX2_noteMoves 60 = .ok (.aload_n 1, 1) := by decide +kernel
theorem dX2_noteMoves_61 : decode cX2_noteMoves 61 = .ok (.iload 8, 2) := by decide +kernel
theorem dX2_noteMoves_63 : decode cX2_noteMoves 63 = .ok (.invokevirtual 64, 3) := by decide +kernel
theorem dX2_noteMoves_66 : decode cX2_noteMoves 66 = .ok (.ifCond .eq 30, 3) := by decide +kernel
theorem dX2_noteMoves_69 : decode cX2_noteMoves 69 = .ok (.iload 4, 2) := by decide +kernel
theorem dX2_noteMoves_71 : decode cX2_noteMoves 71 = .ok (.iload 7, 2) := by decide +kernel
theorem dX2_noteMoves_73 : decode cX2_noteMoves 73 = .ok (.bipush 7, 2) := by decide +kernel
theorem dX2_noteMoves_75 : decode cX2_noteMoves 75 = .ok (.iand, 1) := by decide +kernel
theorem dX2_noteMoves_76 : decode cX2_noteMoves 76 = .ok (.iconst 1, 1) := by decide +kernel
theorem dX2_noteMoves_77 : decode cX2_noteMoves 77 = .ok (.isub, 1) := by decide +kernel
theorem dX2_noteMoves_78 : decode cX2_noteMoves 78 = .ok (.iload 4, 2) := by decide +kernel
theorem dX2_noteMoves_80 : decode cX2_noteMoves 80 = .ok (.iload 8, 2) := by decide +kernel
theorem dX2_noteMoves_82 : decode cX2_noteMoves 82 = .ok (.invokestatic 141, 3) := by decide +kernel
theorem dX2_noteMoves_85 : decode cX2_noteMoves 85 = .ok (.isub, 1) := by decide +kernel
theorem dX2_noteMoves_86 : decode cX2_noteMoves 86 = .ok (.getstatic 94, 3) := by decide +kernel
theorem dX2_noteMoves_89 : decode cX2_noteMoves 89 = .ok (.iload 8, 2) := by decide +kernel
theorem dX2_noteMoves_91 : decode cX2_noteMoves 91 = .ok (.iaload, 1) := by decide +kernel
theorem dX2_noteMoves_92 : decode cX2_noteMoves 92 = .ok (.imul, 1) := by decide +kernel
theorem dX2_noteMoves_93 : decode cX2_noteMoves 93 = .ok (.iadd, 1) := by decide +kernel
theorem dX2_noteMoves_94 : decode cX2_noteMoves 94 = .ok (.istore 4, 2) := by decide +kernel
theorem dX2_noteMoves_96 : decode cX2_noteMoves 96 = .ok (.iinc 6 1, 3) := by decide +kernel
theorem dX2_noteMoves_99 : decode cX2_noteMoves 99 = .ok (.goto (-79), 3) := by decide +kernel
theorem dX2_noteMoves_102 : decode cX2_noteMoves 102 = .ok (.return_, 1) := by decide +kernel
theorem dX2_leastMove_0 : decode cX2_leastMove 0 = .ok (.iload_n 2, 1) := by decide +kernel
theorem dX2_leastMove_1 : decode cX2_leastMove 1 = .ok (.istore 4, 2) := by decide +kernel
theorem dX2_leastMove_3 : decode cX2_leastMove 3 = .ok (.iconst 0, 1) := by decide +kernel
theorem dX2_leastMove_4 : decode cX2_leastMove 4 = .ok (.istore 5, 2) := by decide +kernel
theorem dX2_leastMove_6 : decode cX2_leastMove 6 = .ok (.iload 5, 2) := by decide +kernel
theorem dX2_leastMove_8 : decode cX2_leastMove 8 = .ok (.aload_n 1, 1) := by decide +kernel
theorem dX2_leastMove_9 : decode cX2_leastMove 9 = .ok (.getfield 126, 3) := by decide +kernel
theorem dX2_leastMove_12 : decode cX2_leastMove 12 = .ok (.if_icmp .ge 80, 3) := by decide +kernel
theorem dX2_leastMove_15 : decode cX2_leastMove 15 = .ok (.iload_n 2, 1) := by decide +kernel
theorem dX2_leastMove_16 : decode cX2_leastMove 16 = .ok (.iload 4, 2) := by decide +kernel
theorem dX2_leastMove_18 : decode cX2_leastMove 18 = .ok (.iconst 5, 1) := by decide +kernel
theorem dX2_leastMove_19 : decode cX2_leastMove 19 = .ok (.irem, 1) := by decide +kernel
theorem dX2_leastMove_20 : decode cX2_leastMove 20 = .ok (.getstatic 94, 3) := by decide +kernel
theorem dX2_leastMove_23 : decode cX2_leastMove 23 = .ok (.iload 5, 2) := by decide +kernel
theorem dX2_leastMove_25 : decode cX2_leastMove 25 = .ok (.iaload, 1) := by decide +kernel
theorem dX2_leastMove_26 : decode cX2_leastMove 26 = .ok (.imul, 1) := by decide +kernel
theorem dX2_leastMove_27 : decode cX2_leastMove 27 = .ok (.isub, 1) := by decide +kernel
theorem dX2_leastMove_28 : decode cX2_leastMove 28 = .ok (.istore 6, 2) := by decide +kernel
theorem dX2_leastMove_30 : decode cX2_leastMove 30 = .ok (.iconst (-1), 1) := by decide +kernel
theorem dX2_leastMove_31 : decode cX2_leastMove 31 = .ok (.istore 7, 2) := by decide +kernel
theorem dX2_leastMove_33 : decode cX2_leastMove 33 = .ok (.iload 7, 2) := by decide +kernel
theorem dX2_leastMove_35 : decode cX2_leastMove 35 = .ok (.aload_n 1, 1) := by decide +kernel
theorem dX2_leastMove_36 : decode cX2_leastMove 36 = .ok (.getfield 74, 3) := by decide +kernel
theorem dX2_leastMove_39 : decode cX2_leastMove 39 = .ok (.if_icmp .ge 41, 3) := by decide +kernel
theorem dX2_leastMove_42 : decode cX2_leastMove 42 = .ok (.aload_n 0, 1) := by decide +kernel
theorem dX2_leastMove_43 : decode cX2_leastMove 43 = .ok (.iload 6, 2) := by decide +kernel
theorem dX2_leastMove_45 : decode cX2_leastMove 45 = .ok (.invokevirtual 111, 3) := by decide +kernel
theorem dX2_leastMove_48 : decode cX2_leastMove 48 = .ok (.iload_n 3, 1) := by decide +kernel
theorem dX2_leastMove_49 : decode cX2_leastMove 49 = .ok (.if_icmp .ne 14, 3) := by decide +kernel
theorem dX2_leastMove_52 : decode cX2_leastMove 52 = .ok (.bipush 8, 2) := by decide +kernel
theorem dX2_leastMove_54 : decode cX2_leastMove 54 = .ok (.iload 5, 2) := by decide +kernel
theorem dX2_leastMove_56 : decode cX2_leastMove 56 = .ok (.imul, 1) := by decide +kernel
theorem dX2_leastMove_57 : decode cX2_leastMove 57 = .ok (.iload 7, 2) := by decide +kernel
theorem dX2_leastMove_59 : decode cX2_leastMove 59 = .ok (.iadd, 1) := by decide +kernel
theorem dX2_leastMove_60 : decode cX2_leastMove 60 = .ok (.iconst 1, 1) := by decide +kernel
theorem dX2_leastMove_61 : decode cX2_leastMove 61 = .ok (.iadd, 1) := by decide +kernel
theorem dX2_leastMove_62 : decode cX2_leastMove 62 = .ok (.ireturn, 1) := by decide +kernel
theorem dX2_leastMove_63 : decode cX2_leastMove 63 = .ok (.iload 6, 2) := by decide +kernel
theorem dX2_leastMove_65 : decode cX2_leastMove 65 = .ok (.getstatic 94, 3) := by decide +kernel
theorem dX2_leastMove_68 : decode cX2_leastMove 68 = .ok (.iload 5, 2) := by decide +kernel
theorem dX2_leastMove_70 : decode cX2_leastMove 70 = .ok (.iaload, 1) := by decide +kernel
theorem dX2_leastMove_71 : decode cX2_leastMove 71 = .ok (.iadd, 1) := by decide +kernel
theorem dX2_leastMove_72 : decode cX2_leastMove 72 = .ok (.istore 6, 2) := by decide +kernel
theorem dX2_leastMove_74 : decode cX2_leastMove 74 = .ok (.iinc 7 1, 3) := by decide +kernel
theorem dX2_leastMove_77 : decode cX2_leastMove 77 = .ok (.goto (-44), 3) := by decide +kernel
theorem dX2_leastMove_80 : decode cX2_leastMove 80 = .ok (.iload 4, 2) := by decide +kernel
theorem dX2_leastMove_82 : decode cX2_leastMove 82 = .ok (.iconst 5, 1) := by decide +kernel
theorem dX2_leastMove_83 : decode cX2_leastMove 83 = .ok (.idiv, 1) := by decide +kernel
theorem dX2_leastMove_84 : decode cX2_leastMove 84 = .ok (.istore 4, 2) := by decide +kernel
theorem dX2_leastMove_86 : decode cX2_leastMove 86 = .ok (.iinc 5 1, 3) := by decide +kernel
theorem dX2_leastMove_89 : decode cX2_leastMove 89 = .ok (.goto (-83), 3) := by decide +kernel
theorem dX2_leastMove_92 : decode cX2_leastMove 92 = .ok (.sipush (-1001), 3) := by decide +kernel
theorem dX2_leastMove_95 : decode cX2_leastMove 95 = .ok (.ireturn, 1) := by decide +kernel
theorem dX3_init_0 : decode cX3_init 0 = .ok (.aload_n 0, 1) := by decide +kernel
theorem dX3_init_1 : decode cX3_init 1 = .ok (.invokespecial 3, 3) := by decide +kernel
theorem dX3_init_4 : decode cX3_init 4 = .ok (.aload_n 0, 1) := by decide +kernel
theorem dX3_init_5 : decode cX3_init 5 = .ok (.iconst 5, 1) := by decide +kernel
theorem dX3_init_6 : decode cX3_init 6 = .ok (.newarray .int, 2) := by decide +kernel
theorem dX3_init_8 : decode cX3_init 8 = .ok (.putfield 9, 3) := by decide +kernel
theorem dX3_init_11 : decode cX3_init 11 = .ok (.aload_n 0, 1) := by decide +kernel
theorem dX3_init_12 : decode cX3_init 12 = .ok (.iconst 5, 1) := by decide +kernel
theorem dX3_init_13 : decode cX3_init 13 = .ok (.newarray .int, 2) := by decide +kernel
theorem dX3_init_15 : decode cX3_init 15 = .ok (.putfield 15, 3) := by decide +kernel
theorem dX3_init_18 : decode cX3_init 18 = .ok (.aload_n 0, 1) := by decide +kernel
theorem dX3_init_19 : decode cX3_init 19 = .ok (.iconst 5, 1) := by decide +kernel
theorem dX3_init_20 : decode cX3_init 20 = .ok (.newarray .int, 2) := by decide +kernel
theorem dX3_init_22 : decode cX3_init 22 = .ok (.putfield 18, 3) := by decide +kernel
theorem dX3_init_25 : decode cX3_init 25 = .ok (.aload_n 0, 1) := by decide +kernel
theorem dX3_init_26 : decode cX3_init 26 = .ok (.bipush 20, 2) := by decide +kernel
theorem dX3_init_28 : decode cX3_init 28 = .ok (.newarray .int, 2) := by decide +kernel
theorem dX3_init_30 : decode cX3_init 30 = .ok (.putfield 21, 3) := by decide +kernel
theorem dX3_init_33 : decode cX3_init 33 = .ok (.aload_n 0, 1) := by decide +kernel
theorem dX3_init_34 : decode cX3_init 34 = .ok (.iconst 4, 1) := by decide +kernel
theorem dX3_init_35 : decode cX3_init 35 = .ok (.newarray .int, 2) := by decide +kernel
theorem dX3_init_37 : decode cX3_init 37 = .ok (.putfield 24, 3) := by decide +kernel
theorem dX3_init_40 : decode cX3_init 40 = .ok (.return_, 1) := by decide +kernel
theorem dX3_isRead_0 : decode cX3_isRead 0 = .ok (.aload_n 0, 1) := by decide +kernel
theorem dX3_isRead_1 : decode cX3_isRead 1 = .ok (.getfield 27, 3) := by decide +kernel
theorem dX3_isRead_4 : decode cX3_isRead 4 = .ok (.ifCond .le 7, 3) := by decide +kernel
theorem dX3_isRead_7 : decode cX3_isRead 7 = .ok (.iconst 1, 1) := by decide +kernel
theorem dX3_isRead_8 : decode cX3_isRead 8 = .ok (.goto 4, 3) := by decide +kernel
theorem dX3_isRead_11 : decode cX3_isRead 11 = .ok (.iconst 0, 1) := by decide +kernel
theorem dX3_isRead_12 : decode cX3_isRead 12 = .ok (.ireturn, 1) := by decide +kernel
theorem dX3_hasMirror_0 : decode cX3_hasMirror 0 = .ok (.iload_n 1, 1) := by decide +kernel
theorem dX3_hasMirror_1 : decode cX3_hasMirror 1 = .ok (.ifCond .lt 15, 3) := by decide +kernel
theorem dX3_hasMirror_4 : decode cX3_hasMirror 4 = .ok (.iload_n 1, 1) := by decide +kernel
theorem dX3_hasMirror_5 : decode cX3_hasMirror 5 = .ok (.aload_n 0, 1) := by decide +kernel
theorem dX3_hasMirror_6 : decode cX3_hasMirror 6 = .ok (.getfield 27, 3) := by decide +kernel
theorem dX3_hasMirror_9 : decode cX3_hasMirror 9 = .ok (.if_icmp .ge 7, 3) := by decide +kernel
theorem dX3_hasMirror_12 : decode cX3_hasMirror 12 = .ok (.iconst 1, 1) := by decide +kernel
theorem dX3_hasMirror_13 : decode cX3_hasMirror 13 = .ok (.goto 4, 3) := by decide +kernel
theorem dX3_hasMirror_16 : decode cX3_hasMirror 16 = .ok (.iconst 0, 1) := by decide +kernel
theorem dX3_hasMirror_17 : decode cX3_hasMirror 17 = .ok (.ireturn, 1) := by decide +kernel
theorem dX3_hasPatch_0 : decode cX3_hasPatch 0 = .ok (.iload_n 1, 1) := by decide +kernel
theorem dX3_hasPatch_1 : decode cX3_hasPatch 1 = .ok (.ifCond .lt 15, 3) := by decide +kernel
theorem dX3_hasPatch_4 : decode cX3_hasPatch 4 = .ok (.iload_n 1, 1) := by decide +kernel
theorem dX3_hasPatch_5 : decode cX3_hasPatch 5 = .ok (.aload_n 0, 1) := by decide +kernel
theorem dX3_hasPatch_6 : decode cX3_hasPatch 6 = .ok (.getfield 31, 3) := by decide +kernel
theorem dX3_hasPatch_9 : decode cX3_hasPatch 9 = .ok (.if_icmp .ge 7, 3) := by decide +kernel
theorem dX3_hasPatch_12 : decode cX3_hasPatch 12 = .ok (.iconst 1, 1) := by decide +kernel
theorem dX3_hasPatch_13 : decode cX3_hasPatch 13 = .ok (.goto 4, 3) := by decide +kernel
theorem dX3_hasPatch_16 : decode cX3_hasPatch 16 = .ok (.iconst 0, 1) := by decide +kernel
theorem dX3_hasPatch_17 : decode cX3_hasPatch 17 = .ok (.ireturn, 1) := by decide +kernel
theorem dX3_isShaded_0 : decode cX3_isShaded 0 = .ok (.aload_n 0, 1) := by decide +kernel
theorem dX3_isShaded_1 : decode cX3_isShaded 1 = .ok (.getfield 34, 3) := by decide +kernel
theorem dX3_isShaded_4 : decode cX3_isShaded 4 = .ok (.iload_n 1, 1) := by decide +kernel
theorem dX3_isShaded_5 : decode cX3_isShaded 5 = .ok (.invokestatic 37, 3) := by decide +kernel
theorem dX3_isShaded_8 : decode cX3_isShaded 8 = .ok (.iconst 1, 1) := by decide +kernel
theorem dX3_isShaded_9 : decode cX3_isShaded 9 = .ok (.if_icmp .ne 7, 3) := by decide +kernel
theorem dX3_isShaded_12 : decode cX3_isShaded 12 = .ok (.iconst 1, 1) := by decide +kernel
theorem dX3_isShaded_13 : decode cX3_isShaded 13 = .ok (.goto 4, 3) := by decide +kernel
theorem dX3_isShaded_16 : decode cX3_isShaded 16 = .ok (.iconst 0, 1) := by decide +kernel
theorem dX3_isShaded_17 : decode cX3_isShaded 17 = .ok (.ireturn, 1) := by decide +kernel
theorem dX3_isStuck_0 : decode cX3_isStuck 0 = .ok (.aload_n 0, 1) := by decide +kernel
theorem dX3_isStuck_1 : decode cX3_isStuck 1 = .ok (.getfield 41, 3) := by decide +kernel
theorem dX3_isStuck_4 : decode cX3_isStuck 4 = .ok (.iload_n 1, 1) := by decide +kernel
theorem dX3_isStuck_5 : decode cX3_isStuck 5 = .ok (.invokestatic 37, 3) := by decide +kernel
theorem dX3_isStuck_8 : decode cX3_isStuck 8 = .ok (.iconst 1, 1) := by decide +kernel
theorem dX3_isStuck_9 : decode cX3_isStuck 9 = .ok (.if_icmp .ne 7, 3) := by decide +kernel
theorem dX3_isStuck_12 : decode cX3_isStuck 12 = .ok (.iconst 1, 1) := by decide +kernel
theorem dX3_isStuck_13 : decode cX3_isStuck 13 = .ok (.goto 4, 3) := by decide +kernel
theorem dX3_isStuck_16 : decode cX3_isStuck 16 = .ok (.iconst 0, 1) := by decide +kernel
theorem dX3_isStuck_17 : decode cX3_isStuck 17 = .ok (.ireturn, 1) := by decide +kernel
theorem dX3_read_0 : decode cX3_read 0 = .ok (.aload_n 0, 1) := by decide +kernel
theorem dX3_read_1 : decode cX3_read 1 = .ok (.aload_n 1, 1) := by decide +kernel
theorem dX3_read_2 : decode cX3_read 2 = .ok (.iconst 0, 1) := by decide +kernel
theorem dX3_read_3 : decode cX3_read 3 = .ok (.invokevirtual 44, 3) := by decide +kernel
theorem dX3_read_6 : decode cX3_read 6 = .ok (.iconst 4, 1) := by decide +kernel
theorem dX3_read_7 : decode cX3_read 7 = .ok (.invokestatic 50, 3) := by decide +kernel
theorem dX3_read_10 : decode cX3_read 10 = .ok (.putfield 31, 3) := by decide +kernel
theorem dX3_read_13 : decode cX3_read 13 = .ok (.aload_n 0, 1) := by decide +kernel
theorem dX3_read_14 : decode cX3_read 14 = .ok (.aload_n 1, 1) := by decide +kernel
theorem dX3_read_15 : decode cX3_read 15 = .ok (.getfield 55, 3) := by decide +kernel
theorem dX3_read_18 : decode cX3_read 18 = .ok (.iconst 4, 1) := by decide +kernel
theorem dX3_read_19 : decode cX3_read 19 = .ok (.idiv, 1) := by decide +kernel
theorem dX3_read_20 : decode cX3_read 20 = .ok (.iconst 5, 1) := by decide +kernel
theorem dX3_read_21 : decode cX3_read 21 = .ok (.invokestatic 50, 3) := by decide +kernel
theorem dX3_read_24 : decode cX3_read 24 = .ok (.putfield 27, 3) := by decide +kernel
theorem dX3_read_27 : decode cX3_read 27 = .ok (.aload_n 0, 1) := by decide +kernel
theorem dX3_read_28 : decode cX3_read 28 = .ok (.iconst 1, 1) := by decide +kernel
theorem dX3_read_29 : decode cX3_read 29 = .ok (.putfield 58, 3) := by decide +kernel
theorem dX3_read_32 : decode cX3_read 32 = .ok (.aload_n 0, 1) := by decide +kernel
theorem dX3_read_33 : decode cX3_read 33 = .ok (.iconst 0, 1) := by decide +kernel
theorem dX3_read_34 : decode cX3_read 34 = .ok (.putfield 34, 3) := by decide +kernel
theorem dX3_read_37 : decode cX3_read 37 = .ok (.aload_n 0, 1) := by decide +kernel
theorem dX3_read_38 : decode cX3_read 38 = .ok (.iconst 0, 1) := by decide +kernel
theorem dX3_read_39 : decode cX3_read 39 = .ok (.putfield 41, 3) := by decide +kernel
theorem dX3_read_42 : decode cX3_read 42 = .ok (.iconst 0, 1) := by decide +kernel
theorem dX3_read_43 : decode cX3_read 43 = .ok (.istore_n 2, 1) := by decide +kernel
theorem dX3_read_44 : decode cX3_read 44 = .ok (.iload_n 2, 1) := by decide +kernel
theorem dX3_read_45 : decode cX3_read 45 = .ok (.aload_n 0, 1) := by decide +kernel
theorem dX3_read_46 : decode cX3_read 46 = .ok (.getfield 27, 3) := by decide +kernel
theorem dX3_read_49 : decode cX3_read 49 = .ok (.if_icmp .ge 99, 3) := by decide +kernel
theorem dX3_read_52 : decode cX3_read 52 = .ok (.aload_n 0, 1) := by decide +kernel
theorem dX3_read_53 : decode cX3_read 53 = .ok (.dup, 1) := by decide +kernel
theorem dX3_read_54 : decode cX3_read 54 = .ok (.getfield 58, 3) := by decide +kernel
theorem dX3_read_57 : decode cX3_read 57 = .ok (.iconst 5, 1) := by decide +kernel
theorem dX3_read_58 : decode cX3_read 58 = .ok (.imul, 1) := by decide +kernel
theorem dX3_read_59 : decode cX3_read 59 = .ok (.putfield 58, 3) := by decide +kernel
theorem dX3_read_62 : decode cX3_read 62 = .ok (.aload_n 0, 1) := by decide +kernel
theorem dX3_read_63 : decode cX3_read 63 = .ok (.getfield 9, 3) := by decide +kernel
theorem dX3_read_66 : decode cX3_read 66 = .ok (.iload_n 2, 1) := by decide +kernel
theorem dX3_read_67 : decode cX3_read 67 = .ok (.aload_n 1, 1) := by decide +kernel
theorem dX3_read_68 : decode cX3_read 68 = .ok (.iconst 4, 1) := by decide +kernel
theorem dX3_read_69 : decode cX3_read 69 = .ok (.iload_n 2, 1) := by decide +kernel
theorem dX3_read_70 : decode cX3_read 70 = .ok (.imul, 1) := by decide +kernel
theorem dX3_read_71 : decode cX3_read 71 = .ok (.iconst 2, 1) := by decide +kernel
theorem dX3_read_72 : decode cX3_read 72 = .ok (.iadd, 1) := by decide +kernel
theorem dX3_read_73 : decode cX3_read 73 = .ok (.invokevirtual 44, 3) := by decide +kernel
theorem dX3_read_76 : decode cX3_read 76 = .ok (.iastore, 1) := by decide +kernel
theorem dX3_read_77 : decode cX3_read 77 = .ok (.aload_n 0, 1) := by decide +kernel
theorem dX3_read_78 : decode cX3_read 78 = .ok (.getfield 15, 3) := by decide +kernel
theorem dX3_read_81 : decode cX3_read 81 = .ok (.iload_n 2, 1) := by decide +kernel
theorem dX3_read_82 : decode cX3_read 82 = .ok (.aload_n 1, 1) := by decide +kernel
theorem dX3_read_83 : decode cX3_read 83 = .ok (.iconst 4, 1) := by decide +kernel
theorem dX3_read_84 : decode cX3_read 84 = .ok (.iload_n 2, 1) := by decide +kernel
theorem dX3_read_85 : decode cX3_read 85 = .ok (.imul, 1) := by decide +kernel
theorem dX3_read_86 : decode cX3_read 86 = .ok (.iconst 4, 1) := by decide +kernel
theorem dX3_read_87 : decode cX3_read 87 = .ok (.iadd, 1) := by decide +kernel
theorem dX3_read_88 : decode cX3_read 88 = .ok (.invokevirtual 44, 3) := by decide +kernel
theorem dX3_read_91 : decode cX3_read 91 = .ok (.iastore, 1) := by decide +kernel
theorem dX3_read_92 : decode cX3_read 92 = .ok (.aload_n 0, 1) := by decide +kernel
theorem dX3_read_93 : decode cX3_read 93 = .ok (.getfield 18, 3) := by decide +kernel
theorem dX3_read_96 : decode cX3_read 96 = .ok (.iload_n 2, 1) := by decide +kernel
theorem dX3_read_97 : decode cX3_read 97 = .ok (.iconst (-1), 1) := by decide +kernel
theorem dX3_read_98 : decode cX3_read 98 = .ok (.iastore, 1) := by decide +kernel
theorem dX3_read_99 : decode cX3_read 99 = .ok (.iconst 0, 1) := by decide +kernel
theorem dX3_read_100 : decode cX3_read 100 = .ok (.istore_n 3, 1) := by decide +kernel
theorem dX3_read_101 : decode cX3_read 101 = .ok (.iload_n 3, 1) := by decide +kernel
theorem dX3_read_102 : decode cX3_read 102 = .ok (.aload_n 0, 1) := by decide +kernel
theorem dX3_read_103 : decode cX3_read 103 = .ok (.getfield 31, 3) := by decide +kernel
theorem dX3_read_106 : decode cX3_read 106 = .ok (.if_icmp .ge 36, 3) := by decide +kernel
theorem dX3_read_109 : decode cX3_read 109 = .ok (.aload_n 0, 1) := by decide +kernel
theorem dX3_read_110 : decode cX3_read 110 = .ok (.getfield 21, 3) := by decide +kernel
theorem dX3_read_113 : decode cX3_read 113 = .ok (.iload_n 2, 1) := by decide +kernel
theorem dX3_read_114 : decode cX3_read 114 = .ok (.iconst 4, 1) := by decide +kernel
theorem dX3_read_115 : decode cX3_read 115 = .ok (.imul, 1) := by decide +kernel
theorem dX3_read_116 : decode cX3_read 116 = .ok (.iload_n 3, 1) := by decide +kernel
theorem dX3_read_117 : decode cX3_read 117 = .ok (.iadd, 1) := by decide +kernel
theorem dX3_read_118 : decode cX3_read 118 = .ok (.aload_n 0, 1) := by decide +kernel
theorem dX3_read_119 : decode cX3_read 119 = .ok (.iload_n 3, 1) := by decide +kernel
theorem dX3_read_120 : decode cX3_read 120 = .ok (.aload_n 0, 1) := by decide +kernel
theorem dX3_read_121 : decode cX3_read 121 = .ok (.getfield 9, 3) := by decide +kernel
theorem dX3_read_124 : decode cX3_read 124 = .ok (.iload_n 2, 1) := by decide +kernel
theorem dX3_read_125 : decode cX3_read 125 = .ok (.iaload, 1) := by decide +kernel
theorem dX3_read_126 : decode cX3_read 126 = .ok (.aload_n 0, 1) := by decide +kernel
theorem dX3_read_127 : decode cX3_read 127 = .ok (.getfield 15, 3) := by decide +kernel
theorem dX3_read_130 : decode cX3_read 130 = .ok (.iload_n 2, 1) := by decide +kernel
theorem dX3_read_131 : decode cX3_read 131 = .ok (.iaload, 1) := by decide +kernel
theorem dX3_read_132 : decode cX3_read 132 = .ok (.invokevirtual 61, 3) := by decide +kernel
theorem dX3_read_135 : decode cX3_read 135 = .ok (.iastore, 1) := by decide +kernel
theorem dX3_read_136 : decode cX3_read 136 = .ok (.iinc 3 1, 3) := by decide +kernel
theorem dX3_read_139 : decode cX3_read 139 = .ok (.goto (-38), 3) := by decide +kernel
theorem dX3_read_142 : decode cX3_read 142 = .ok (.iinc 2 1, 3) := by decide +kernel
theorem dX3_read_145 : decode cX3_read 145 = .ok (.goto (-101), 3) := by decide +kernel
theorem dX3_read_148 : decode cX3_read 148 = .ok (.aload_n 0, 1) := by decide +kernel
theorem dX3_read_149 : decode cX3_read 149 = .ok (.getfield 24, 3) := by decide +kernel
theorem dX3_read_152 : decode cX3_read 152 = .ok (.bipush 20, 2) := by decide +kernel
theorem dX3_read_154 : decode cX3_read 154 = .ok (.invokestatic 65, 3) := by decide +kernel
theorem dX3_read_157 : decode cX3_read 157 = .ok (.aload_n 0, 1) := by decide +kernel
theorem dX3_read_158 : decode cX3_read 158 = .ok (.invokevirtual 71, 3) := by decide +kernel
theorem dX3_read_161 : decode cX3_read 161 = .ok (.return_, 1) := by decide +kernel
theorem dX3_lightAt_0 : decode cX3_lightAt 0 = .ok (.iload_n 2, 1) := by decide +kernel
theorem dX3_lightAt_1 : decode cX3_lightAt 1 = .ok (.bipush 8, 2) := by decide +kernel
theorem dX3_lightAt_3 : decode cX3_lightAt 3 = .ok (.iload_n 1, 1) := by decide +kernel
theorem dX3_lightAt_4 : decode cX3_lightAt 4 = .ok (.imul, 1) := by decide +kernel
theorem dX3_lightAt_5 : decode cX3_lightAt 5 = .ok (.ishl, 1) := by decide +kernel
theorem dX3_lightAt_6 : decode cX3_lightAt 6 = .ok (.istore 4, 2) := by decide +kernel
theorem dX3_lightAt_8 : decode cX3_lightAt 8 = .ok (.aload_n 0, 1) := by decide +kernel
theorem dX3_lightAt_9 : decode cX3_lightAt 9 = .ok (.iload_n 1, 1) := by decide +kernel
theorem dX3_lightAt_10 : decode cX3_lightAt 10 = .ok (.iconst 1, 1) := by decide +kernel
theorem dX3_lightAt_11 : decode cX3_lightAt 11 = .ok (.isub, 1) := by decide +kernel
theorem dX3_lightAt_12 : decode cX3_lightAt 12 = .ok (.invokevirtual 74, 3) := by decide +kernel
theorem dX3_lightAt_15 : decode cX3_lightAt 15 = .ok (.ifCond .eq 16, 3) := by decide +kernel
theorem dX3_lightAt_18 : decode cX3_lightAt 18 = .ok (.iload 4, 2) := by decide +kernel
theorem dX3_lightAt_20 : decode cX3_lightAt 20 = .ok (.iload_n 3, 1) := by decide +kernel
theorem dX3_lightAt_21 : decode cX3_lightAt 21 = .ok (.bipush 8, 2) := by decide +kernel
theorem dX3_lightAt_23 : decode cX3_lightAt 23 = .ok (.iload_n 1, 1) := by decide +kernel
theorem dX3_lightAt_24 : decode cX3_lightAt 24 = .ok (.iconst 1, 1) := by decide +kernel
theorem dX3_lightAt_25 : decode cX3_lightAt 25 = .ok (.isub, 1) := by decide +kernel
theorem dX3_lightAt_26 : decode cX3_lightAt 26 = .ok (.imul, 1) := by decide +kernel
theorem dX3_lightAt_27 : decode cX3_lightAt 27 = .ok (.ishl, 1) := by decide +kernel
theorem dX3_lightAt_28 : decode cX3_lightAt 28 = .ok (.iadd, 1) := by decide +kernel
theorem dX3_lightAt_29 : decode cX3_lightAt 29 = .ok (.istore 4, 2) := by decide +kernel
theorem dX3_lightAt_31 : decode cX3_lightAt 31 = .ok (.aload_n 0, 1) := by decide +kernel
theorem dX3_lightAt_32 : decode cX3_lightAt 32 = .ok (.iload_n 1, 1) := by decide +kernel
theorem dX3_lightAt_33 : decode cX3_lightAt 33 = .ok (.iconst 1, 1) := by decide +kernel
theorem dX3_lightAt_34 : decode cX3_lightAt 34 = .ok (.iadd, 1) := by decide +kernel
theorem dX3_lightAt_35 : decode cX3_lightAt 35 = .ok (.invokevirtual 74, 3) := by decide +kernel
theorem dX3_lightAt_38 : decode cX3_lightAt 38 = .ok (.ifCond .eq 16, 3) := by decide +kernel
theorem dX3_lightAt_41 : decode cX3_lightAt 41 = .ok (.iload 4, 2) := by decide +kernel
theorem dX3_lightAt_43 : decode cX3_lightAt 43 = .ok (.iload_n 3, 1) := by decide +kernel
theorem dX3_lightAt_44 : decode cX3_lightAt 44 = .ok (.bipush 8, 2) := by decide +kernel
theorem dX3_lightAt_46 : decode cX3_lightAt 46 = .ok (.iload_n 1, 1) := by decide +kernel
theorem dX3_lightAt_47 : decode cX3_lightAt 47 = .ok (.iconst 1, 1) := by decide +kernel
theorem dX3_lightAt_48 : decode cX3_lightAt 48 = .ok (.iadd, 1) := by decide +kernel
theorem dX3_lightAt_49 : decode cX3_lightAt 49 = .ok (.imul, 1) := by decide +kernel
theorem dX3_lightAt_50 : decode cX3_lightAt 50 = .ok (.ishl, 1) := by decide +kernel
theorem dX3_lightAt_51 : decode cX3_lightAt 51 = .ok (.iadd, 1) := by decide +kernel
theorem dX3_lightAt_52 : decode cX3_lightAt 52 = .ok (.istore 4, 2) := by decide +kernel
theorem dX3_lightAt_54 : decode cX3_lightAt 54 = .ok (.iload 4, 2) := by decide +kernel
theorem dX3_lightAt_56 : decode cX3_lightAt 56 = .ok (.ireturn, 1) := by decide +kernel
theorem dX3_light_0 : decode cX3_light 0 = .ok (.aload_n 0, 1) := by decide +kernel
theorem dX3_light_1 : decode cX3_light 1 = .ok (.iload_n 1, 1) := by decide +kernel
theorem dX3_light_2 : decode cX3_light 2 = .ok (.invokevirtual 78, 3) := by decide +kernel
theorem dX3_light_5 : decode cX3_light 5 = .ok (.ifCond .eq 24, 3) := by decide +kernel
theorem dX3_light_8 : decode cX3_light 8 = .ok (.aload_n 0, 1) := by decide +kernel
theorem dX3_light_9 : decode cX3_light 9 = .ok (.iload_n 2, 1) := by decide +kernel
theorem dX3_light_10 : decode cX3_light 10 = .ok (.invokevirtual 74, 3) := by decide +kernel
theorem dX3_light_13 : decode cX3_light 13 = .ok (.ifCond .eq 16, 3) := by decide +kernel
theorem dX3_light_16 : decode cX3_light 16 = .ok (.aload_n 0, 1) := by decide +kernel
theorem dX3_light_17 : decode cX3_light 17 = .ok (.getfield 21, 3) := by decide +kernel
theorem dX3_light_20 : decode cX3_light 20 = .ok (.iload_n 1, 1) := by decide +kernel
theorem dX3_light_21 : decode cX3_light 21 = .ok (.iconst 4, 1) := by decide +kernel
theorem dX3_light_22 : decode cX3_light 22 = .ok (.imul, 1) := by decide +kernel
theorem dX3_light_23 : decode cX3_light 23 = .ok (.iload_n 2, 1) := by decide +kernel
theorem dX3_light_24 : decode cX3_light 24 = .ok (.iadd, 1) := by decide +kernel
theorem dX3_light_25 : decode cX3_light 25 = .ok (.iaload, 1) := by decide +kernel
theorem dX3_light_26 : decode cX3_light 26 = .ok (.goto 4, 3) := by decide +kernel
theorem dX3_light_29 : decode cX3_light 29 = .ok (.iconst 0, 1) := by decide +kernel
theorem dX3_light_30 : decode cX3_light 30 = .ok (.ireturn, 1) := by decide +kernel
theorem dX3_measureSlack_0 : decode cX3_measureSlack 0 = .ok (.aload_n 0, 1) := by decide +kernel
theorem dX3_measureSlack_1 : decode cX3_measureSlack 1 = .ok (.iconst 0, 1) := by decide +kernel
theorem dX3_measureSlack_2 : decode cX3_measureSlack 2 = .ok (.putfield 81, 3) := by decide +kernel
theorem dX3_measureSlack_5 : decode cX3_measureSlack 5 = .ok (.iconst 0, 1) := by decide +kernel
theorem dX3_measureSlack_6 : decode cX3_measureSlack 6 = .ok (.istore_n 1, 1) := by decide +kernel
theorem dX3_measureSlack_7 : decode cX3_measureSlack 7 = .ok (.iload_n 1, 1) := by decide +kernel
theorem dX3_measureSlack_8 : decode cX3_measureSlack 8 = .ok (.aload_n 0, 1) := by decide +kernel
theorem dX3_measureSlack_9 : decode cX3_measureSlack 9 = .ok (.getfield 31, 3) := by decide +kernel
theorem dX3_measureSlack_12 : decode cX3_measureSlack 12 = .ok (.if_icmp .ge 32, 3) := by decide +kernel
theorem dX3_measureSlack_15 : decode cX3_measureSlack 15 = .ok (.aload_n 0, 1) := by decide +kernel
theorem dX3_measureSlack_16 : decode cX3_measureSlack 16 = .ok (.dup, 1) := by decide +kernel
theorem dX3_measureSlack_17 : decode cX3_measureSlack 17 = .ok (.getfield 81, 3) := by decide +kernel
theorem dX3_measureSlack_20 : decode cX3_measureSlack 20 = .ok (.bipush 127, 2) := by decide +kernel
theorem dX3_measureSlack_22 : decode cX3_measureSlack 22 = .ok (.aload_n 0, 1) := by decide +kernel
theorem dX3_measureSlack_23 : decode cX3_measureSlack 23 = .ok (.getfield 24, 3) := by decide +kernel
theorem dX3_measureSlack_26 : decode cX3_measureSlack 26 = .ok (.iload_n 1, 1) := by decide +kernel
theorem dX3_measureSlack_27 : decode cX3_measureSlack 27 = .ok (.iaload, 1) := by decide +kernel
theorem dX3_measureSlack_28 : decode cX3_measureSlack 28 = .ok (.isub, 1) := by decide +kernel
theorem dX3_measureSlack_29 : decode cX3_measureSlack 29 = .ok (.bipush 8, 2) := by decide +kernel
theorem dX3_measureSlack_31 : decode cX3_measureSlack 31 = .ok (.iload_n 1, 1) := by decide +kernel
theorem dX3_measureSlack_32 : decode cX3_measureSlack 32 = .ok (.imul, 1) := by decide +kernel
theorem dX3_measureSlack_33 : decode cX3_measureSlack 33 = .ok (.ishl, 1) := by decide +kernel
theorem dX3_measureSlack_34 : decode cX3_measureSlack 34 = .ok (.iadd, 1) := by decide +kernel
theorem dX3_measureSlack_35 : decode cX3_measureSlack 35 = .ok (.putfield 81, 3) := by decide +kernel
theorem dX3_measureSlack_38 : decode cX3_measureSlack 38 = .ok (.iinc 1 1, 3) := by decide +kernel
theorem dX3_measureSlack_41 : decode cX3_measureSlack 41 = .ok (.goto (-34), 3) := by decide +kernel
theorem dX3_measureSlack_44 : decode cX3_measureSlack 44 = .ok (.return_, 1) := by decide +kernel
theorem dX3_isSafe_0 : decode cX3_isSafe 0 = .ok (.iload_n 1, 1) := by decide +kernel
theorem dX3_isSafe_1 : decode cX3_isSafe 1 = .ok (.aload_n 0, 1) := by decide +kernel
theorem dX3_isSafe_2 : decode cX3_isSafe 2 = .ok (.getfield 81, 3) := by decide +kernel
theorem dX3_isSafe_5 : decode cX3_isSafe 5 = .ok (.iadd, 1) := by decide +kernel
