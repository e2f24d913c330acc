theorem dX5_ofMirror_92 : decode cX5_ofMirror 92 = .ok (.aload_n 0, 1) := by decide +kernel
theorem dX5_ofMirror_93 : decode cX5_ofMirror 93 = .ok (.getfield 19, 3) := by decide +kernel
theorem dX5_ofMirror_96 : decode cX5_ofMirror 96 = .ok (.iload_n 1, 1) := by decide +kernel
theorem dX5_ofMirror_97 : decode cX5_ofMirror 97 = .ok (.iaload, 1) := by decide +kernel
theorem dX5_ofMirror_98 : decode cX5_ofMirror 98 = .ok (.invokevirtual 100, 3) := by decide +kernel
theorem dX5_ofMirror_101 : decode cX5_ofMirror 101 = .ok (.ireturn, 1) := by decide +kernel
theorem dX5_mirror_0 : decode cX5_mirror 0 = .ok (.aload_n 0, 1) := by decide +kernel
theorem dX5_mirror_1 : decode cX5_mirror 1 = .ok (.iload_n 1, 1) := by decide +kernel
theorem dX5_mirror_2 : decode cX5_mirror 2 = .ok (.invokevirtual 87, 3) := by decide +kernel
theorem dX5_mirror_5 : decode cX5_mirror 5 = .ok (.ifCond .ne 7, 3) := by decide +kernel
theorem dX5_mirror_8 : decode cX5_mirror 8 = .ok (.sipush (-1002), 3) := by decide +kernel
theorem dX5_mirror_11 : decode cX5_mirror 11 = .ok (.ireturn, 1) := by decide +kernel
theorem dX5_mirror_12 : decode cX5_mirror 12 = .ok (.iload_n 2, 1) := by decide +kernel
theorem dX5_mirror_13 : decode cX5_mirror 13 = .ok (.iconst 0, 1) := by decide +kernel
theorem dX5_mirror_14 : decode cX5_mirror 14 = .ok (.iconst 5, 1) := by decide +kernel
theorem dX5_mirror_15 : decode cX5_mirror 15 = .ok (.invokestatic 41, 3) := by decide +kernel
theorem dX5_mirror_18 : decode cX5_mirror 18 = .ok (.ifCond .eq 12, 3) := by decide +kernel
theorem dX5_mirror_21 : decode cX5_mirror 21 = .ok (.aload_n 0, 1) := by decide +kernel
theorem dX5_mirror_22 : decode cX5_mirror 22 = .ok (.iload_n 1, 1) := by decide +kernel
theorem dX5_mirror_23 : decode cX5_mirror 23 = .ok (.iload_n 2, 1) := by decide +kernel
theorem dX5_mirror_24 : decode cX5_mirror 24 = .ok (.invokevirtual 104, 3) := by decide +kernel
theorem dX5_mirror_27 : decode cX5_mirror 27 = .ok (.goto 6, 3) := by decide +kernel
theorem dX5_mirror_30 : decode cX5_mirror 30 = .ok (.sipush (-1003), 3) := by decide +kernel
theorem dX5_mirror_33 : decode cX5_mirror 33 = .ok (.ireturn, 1) := by decide +kernel
theorem dX5_aimedAt_0 : decode cX5_aimedAt 0 = .ok (.iconst 0, 1) := by decide +kernel
theorem dX5_aimedAt_1 : decode cX5_aimedAt 1 = .ok (.istore_n 2, 1) := by decide +kernel
theorem dX5_aimedAt_2 : decode cX5_aimedAt 2 = .ok (.iconst 0, 1) := by decide +kernel
theorem dX5_aimedAt_3 : decode cX5_aimedAt 3 = .ok (.istore_n 3, 1) := by decide +kernel
theorem dX5_aimedAt_4 : decode cX5_aimedAt 4 = .ok (.iload_n 3, 1) := by decide +kernel
theorem dX5_aimedAt_5 : decode cX5_aimedAt 5 = .ok (.aload_n 0, 1) := by decide +kernel
theorem dX5_aimedAt_6 : decode cX5_aimedAt 6 = .ok (.getfield 60, 3) := by decide +kernel
theorem dX5_aimedAt_9 : decode cX5_aimedAt 9 = .ok (.if_icmp .ge 27, 3) := by decide +kernel
theorem dX5_aimedAt_12 : decode cX5_aimedAt 12 = .ok (.iload_n 2, 1) := by decide +kernel
theorem dX5_aimedAt_13 : decode cX5_aimedAt 13 = .ok (.aload_n 0, 1) := by decide +kernel
theorem dX5_aimedAt_14 : decode cX5_aimedAt 14 = .ok (.getfield 19, 3) := by decide +kernel
theorem dX5_aimedAt_17 : decode cX5_aimedAt 17 = .ok (.iload_n 3, 1) := by decide +kernel
theorem dX5_aimedAt_18 : decode cX5_aimedAt 18 = .ok (.iaload, 1) := by decide +kernel
theorem dX5_aimedAt_19 : decode cX5_aimedAt 19 = .ok (.iload_n 1, 1) := by decide +kernel
theorem dX5_aimedAt_20 : decode cX5_aimedAt 20 = .ok (.if_icmp .ne 7, 3) := by decide +kernel
theorem dX5_aimedAt_23 : decode cX5_aimedAt 23 = .ok (.iconst 1, 1) := by decide +kernel
theorem dX5_aimedAt_24 : decode cX5_aimedAt 24 = .ok (.goto 4, 3) := by decide +kernel
theorem dX5_aimedAt_27 : decode cX5_aimedAt 27 = .ok (.iconst 0, 1) := by decide +kernel
theorem dX5_aimedAt_28 : decode cX5_aimedAt 28 = .ok (.iadd, 1) := by decide +kernel
theorem dX5_aimedAt_29 : decode cX5_aimedAt 29 = .ok (.istore_n 2, 1) := by decide +kernel
theorem dX5_aimedAt_30 : decode cX5_aimedAt 30 = .ok (.iinc 3 1, 3) := by decide +kernel
theorem dX5_aimedAt_33 : decode cX5_aimedAt 33 = .ok (.goto (-29), 3) := by decide +kernel
theorem dX5_aimedAt_36 : decode cX5_aimedAt 36 = .ok (.iload_n 2, 1) := by decide +kernel
theorem dX5_aimedAt_37 : decode cX5_aimedAt 37 = .ok (.ireturn, 1) := by decide +kernel
theorem dX5_ofPatch_0 : decode cX5_ofPatch 0 = .ok (.aload_n 0, 1) := by decide +kernel
theorem dX5_ofPatch_1 : decode cX5_ofPatch 1 = .ok (.invokevirtual 90, 3) := by decide +kernel
theorem dX5_ofPatch_4 : decode cX5_ofPatch 4 = .ok (.iload_n 2, 1) := by decide +kernel
theorem dX5_ofPatch_5 : decode cX5_ofPatch 5 = .ok (.ifCond .ne 12, 3) := by decide +kernel
theorem dX5_ofPatch_8 : decode cX5_ofPatch 8 = .ok (.aload_n 0, 1) := by decide +kernel
theorem dX5_ofPatch_9 : decode cX5_ofPatch 9 = .ok (.iload_n 1, 1) := by decide +kernel
theorem dX5_ofPatch_10 : decode cX5_ofPatch 10 = .ok (.iconst 0, 1) := by decide +kernel
theorem dX5_ofPatch_11 : decode cX5_ofPatch 11 = .ok (.invokevirtual 80, 3) := by decide +kernel
theorem dX5_ofPatch_14 : decode cX5_ofPatch 14 = .ok (.goto 36, 3) := by decide +kernel
theorem dX5_ofPatch_17 : decode cX5_ofPatch 17 = .ok (.iload_n 2, 1) := by decide +kernel
theorem dX5_ofPatch_18 : decode cX5_ofPatch 18 = .ok (.iconst 1, 1) := by decide +kernel
theorem dX5_ofPatch_19 : decode cX5_ofPatch 19 = .ok (.if_icmp .ne 12, 3) := by decide +kernel
theorem dX5_ofPatch_22 : decode cX5_ofPatch 22 = .ok (.aload_n 0, 1) := by decide +kernel
theorem dX5_ofPatch_23 : decode cX5_ofPatch 23 = .ok (.getfield 22, 3) := by decide +kernel
theorem dX5_ofPatch_26 : decode cX5_ofPatch 26 = .ok (.iload_n 1, 1) := by decide +kernel
theorem dX5_ofPatch_27 : decode cX5_ofPatch 27 = .ok (.iaload, 1) := by decide +kernel
theorem dX5_ofPatch_28 : decode cX5_ofPatch 28 = .ok (.goto 22, 3) := by decide +kernel
theorem dX5_ofPatch_31 : decode cX5_ofPatch 31 = .ok (.iload_n 2, 1) := by decide +kernel
theorem dX5_ofPatch_32 : decode cX5_ofPatch 32 = .ok (.iconst 2, 1) := by decide +kernel
theorem dX5_ofPatch_33 : decode cX5_ofPatch 33 = .ok (.if_icmp .ne 12, 3) := by decide +kernel
theorem dX5_ofPatch_36 : decode cX5_ofPatch 36 = .ok (.aload_n 0, 1) := by decide +kernel
theorem dX5_ofPatch_37 : decode cX5_ofPatch 37 = .ok (.iload_n 1, 1) := by decide +kernel
theorem dX5_ofPatch_38 : decode cX5_ofPatch 38 = .ok (.iconst 1, 1) := by decide +kernel
theorem dX5_ofPatch_39 : decode cX5_ofPatch 39 = .ok (.invokevirtual 80, 3) := by decide +kernel
theorem dX5_ofPatch_42 : decode cX5_ofPatch 42 = .ok (.goto 8, 3) := by decide +kernel
theorem dX5_ofPatch_45 : decode cX5_ofPatch 45 = .ok (.aload_n 0, 1) := by decide +kernel
theorem dX5_ofPatch_46 : decode cX5_ofPatch 46 = .ok (.iload_n 1, 1) := by decide +kernel
theorem dX5_ofPatch_47 : decode cX5_ofPatch 47 = .ok (.invokevirtual 107, 3) := by decide +kernel
theorem dX5_ofPatch_50 : decode cX5_ofPatch 50 = .ok (.ireturn, 1) := by decide +kernel
theorem dX5_patch_0 : decode cX5_patch 0 = .ok (.aload_n 0, 1) := by decide +kernel
theorem dX5_patch_1 : decode cX5_patch 1 = .ok (.iload_n 1, 1) := by decide +kernel
theorem dX5_patch_2 : decode cX5_patch 2 = .ok (.invokevirtual 84, 3) := by decide +kernel
theorem dX5_patch_5 : decode cX5_patch 5 = .ok (.ifCond .ne 7, 3) := by decide +kernel
theorem dX5_patch_8 : decode cX5_patch 8 = .ok (.sipush (-1002), 3) := by decide +kernel
theorem dX5_patch_11 : decode cX5_patch 11 = .ok (.ireturn, 1) := by decide +kernel
theorem dX5_patch_12 : decode cX5_patch 12 = .ok (.iload_n 2, 1) := by decide +kernel
theorem dX5_patch_13 : decode cX5_patch 13 = .ok (.iconst 0, 1) := by decide +kernel
theorem dX5_patch_14 : decode cX5_patch 14 = .ok (.iconst 3, 1) := by decide +kernel
theorem dX5_patch_15 : decode cX5_patch 15 = .ok (.invokestatic 41, 3) := by decide +kernel
theorem dX5_patch_18 : decode cX5_patch 18 = .ok (.ifCond .eq 12, 3) := by decide +kernel
theorem dX5_patch_21 : decode cX5_patch 21 = .ok (.aload_n 0, 1) := by decide +kernel
theorem dX5_patch_22 : decode cX5_patch 22 = .ok (.iload_n 1, 1) := by decide +kernel
theorem dX5_patch_23 : decode cX5_patch 23 = .ok (.iload_n 2, 1) := by decide +kernel
theorem dX5_patch_24 : decode cX5_patch 24 = .ok (.invokevirtual 111, 3) := by decide +kernel
theorem dX5_patch_27 : decode cX5_patch 27 = .ok (.goto 6, 3) := by decide +kernel
theorem dX5_patch_30 : decode cX5_patch 30 = .ok (.sipush (-1003), 3) := by decide +kernel
theorem dX5_patch_33 : decode cX5_patch 33 = .ok (.ireturn, 1) := by decide +kernel
theorem dX5_unitOf_0 : decode cX5_unitOf 0 = .ok (.iconst 1, 1) := by decide +kernel
theorem dX5_unitOf_1 : decode cX5_unitOf 1 = .ok (.istore_n 2, 1) := by decide +kernel
theorem dX5_unitOf_2 : decode cX5_unitOf 2 = .ok (.iconst 4, 1) := by decide +kernel
theorem dX5_unitOf_3 : decode cX5_unitOf 3 = .ok (.istore_n 3, 1) := by decide +kernel
theorem dX5_unitOf_4 : decode cX5_unitOf 4 = .ok (.iload_n 3, 1) := by decide +kernel
theorem dX5_unitOf_5 : decode cX5_unitOf 5 = .ok (.iload_n 1, 1) := by decide +kernel
theorem dX5_unitOf_6 : decode cX5_unitOf 6 = .ok (.if_icmp .le 13, 3) := by decide +kernel
theorem dX5_unitOf_9 : decode cX5_unitOf 9 = .ok (.iload_n 2, 1) := by decide +kernel
theorem dX5_unitOf_10 : decode cX5_unitOf 10 = .ok (.iconst 5, 1) := by decide +kernel
theorem dX5_unitOf_11 : decode cX5_unitOf 11 = .ok (.imul, 1) := by decide +kernel
theorem dX5_unitOf_12 : decode cX5_unitOf 12 = .ok (.istore_n 2, 1) := by decide +kernel
theorem dX5_unitOf_13 : decode cX5_unitOf 13 = .ok (.iinc 3 (-1), 3) := by decide +kernel
theorem dX5_unitOf_16 : decode cX5_unitOf 16 = .ok (.goto (-12), 3) := by decide +kernel
theorem dX5_unitOf_19 : decode cX5_unitOf 19 = .ok (.iload_n 2, 1) := by decide +kernel
theorem dX5_unitOf_20 : decode cX5_unitOf 20 = .ok (.ireturn, 1) := by decide +kernel
theorem dX5_codeNow_0 : decode cX5_codeNow 0 = .ok (.iconst 0, 1) := by decide +kernel
theorem dX5_codeNow_1 : decode cX5_codeNow 1 = .ok (.istore_n 1, 1) := by decide +kernel
theorem dX5_codeNow_2 : decode cX5_codeNow 2 = .ok (.iconst 0, 1) := by decide +kernel
theorem dX5_codeNow_3 : decode cX5_codeNow 3 = .ok (.istore_n 2, 1) := by decide +kernel
theorem dX5_codeNow_4 : decode cX5_codeNow 4 = .ok (.iload_n 2, 1) := by decide +kernel
theorem dX5_codeNow_5 : decode cX5_codeNow 5 = .ok (.iconst 5, 1) := by decide +kernel
theorem dX5_codeNow_6 : decode cX5_codeNow 6 = .ok (.if_icmp .ge 22, 3) := by decide +kernel
theorem dX5_codeNow_9 : decode cX5_codeNow 9 = .ok (.iconst 5, 1) := by decide +kernel
theorem dX5_codeNow_10 : decode cX5_codeNow 10 = .ok (.iload_n 1, 1) := by decide +kernel
theorem dX5_codeNow_11 : decode cX5_codeNow 11 = .ok (.imul, 1) := by decide +kernel
theorem dX5_codeNow_12 : decode cX5_codeNow 12 = .ok (.aload_n 0, 1) := by decide +kernel
theorem dX5_codeNow_13 : decode cX5_codeNow 13 = .ok (.getfield 25, 3) := by decide +kernel
theorem dX5_codeNow_16 : decode cX5_codeNow 16 = .ok (.iload_n 2, 1) := by decide +kernel
theorem dX5_codeNow_17 : decode cX5_codeNow 17 = .ok (.iaload, 1) := by decide +kernel
theorem dX5_codeNow_18 : decode cX5_codeNow 18 = .ok (.iadd, 1) := by decide +kernel
theorem dX5_codeNow_19 : decode cX5_codeNow 19 = .ok (.iconst 1, 1) := by decide +kernel
theorem dX5_codeNow_20 : decode cX5_codeNow 20 = .ok (.iadd, 1) := by decide +kernel
theorem dX5_codeNow_21 : decode cX5_codeNow 21 = .ok (.istore_n 1, 1) := by decide +kernel
theorem dX5_codeNow_22 : decode cX5_codeNow 22 = .ok (.iinc 2 1, 3) := by decide +kernel
theorem dX5_codeNow_25 : decode cX5_codeNow 25 = .ok (.goto (-21), 3) := by decide +kernel
theorem dX5_codeNow_28 : decode cX5_codeNow 28 = .ok (.iload_n 1, 1) := by decide +kernel
theorem dX5_codeNow_29 : decode cX5_codeNow 29 = .ok (.ireturn, 1) := by decide +kernel
theorem dX5_layCode_0 : decode cX5_layCode 0 = .ok (.iload_n 1, 1) := by decide +kernel
theorem dX5_layCode_1 : decode cX5_layCode 1 = .ok (.istore_n 2, 1) := by decide +kernel
theorem dX5_layCode_2 : decode cX5_layCode 2 = .ok (.iconst 4, 1) := by decide +kernel
theorem dX5_layCode_3 : decode cX5_layCode 3 = .ok (.istore_n 3, 1) := by decide +kernel
theorem dX5_layCode_4 : decode cX5_layCode 4 = .ok (.iload_n 3, 1) := by decide +kernel
theorem dX5_layCode_5 : decode cX5_layCode 5 = .ok (.ifCond .lt 24, 3) := by decide +kernel
theorem dX5_layCode_8 : decode cX5_layCode 8 = .ok (.aload_n 0, 1) := by decide +kernel
theorem dX5_layCode_9 : decode cX5_layCode 9 = .ok (.getfield 25, 3) := by decide +kernel
theorem dX5_layCode_12 : decode cX5_layCode 12 = .ok (.iload_n 3, 1) := by decide +kernel
theorem dX5_layCode_13 : decode cX5_layCode 13 = .ok (.iload_n 2, 1) := by decide +kernel
theorem dX5_layCode_14 : decode cX5_layCode 14 = .ok (.iconst 5, 1) := by decide +kernel
theorem dX5_layCode_15 : decode cX5_layCode 15 = .ok (.irem, 1) := by decide +kernel
theorem dX5_layCode_16 : decode cX5_layCode 16 = .ok (.iconst 1, 1) := by decide +kernel
theorem dX5_layCode_17 : decode cX5_layCode 17 = .ok (.isub, 1) := by decide +kernel
theorem dX5_layCode_18 : decode cX5_layCode 18 = .ok (.iastore, 1) := by decide +kernel
theorem dX5_layCode_19 : decode cX5_layCode 19 = .ok (.iload_n 2, 1) := by decide +kernel
theorem dX5_layCode_20 : decode cX5_layCode 20 = .ok (.iconst 5, 1) := by decide +kernel
theorem dX5_layCode_21 : decode cX5_layCode 21 = .ok (.idiv, 1) := by decide +kernel
theorem dX5_layCode_22 : decode cX5_layCode 22 = .ok (.istore_n 2, 1) := by decide +kernel
theorem dX5_layCode_23 : decode cX5_layCode 23 = .ok (.iinc 3 (-1), 3) := by decide +kernel
theorem dX5_layCode_26 : decode cX5_layCode 26 = .ok (.goto (-22), 3) := by decide +kernel
theorem dX5_layCode_29 : decode cX5_layCode 29 = .ok (.return_, 1) := by decide +kernel
theorem dX5_areThere_0 : decode cX5_areThere 0 = .ok (.iconst 1, 1) := by decide +kernel
theorem dX5_areThere_1 : decode cX5_areThere 1 = .ok (.istore_n 1, 1) := by decide +kernel
theorem dX5_areThere_2 : decode cX5_areThere 2 = .ok (.iconst 0, 1) := by decide +kernel
theorem dX5_areThere_3 : decode cX5_areThere 3 = .ok (.istore_n 2, 1) := by decide +kernel
theorem dX5_areThere_4 : decode cX5_areThere 4 = .ok (.iload_n 2, 1) := by decide +kernel
theorem dX5_areThere_5 : decode cX5_areThere 5 = .ok (.iconst 5, 1) := by decide +kernel
theorem dX5_areThere_6 : decode cX5_areThere 6 = .ok (.if_icmp .ge 79, 3) := by decide +kernel
theorem dX5_areThere_9 : decode cX5_areThere 9 = .ok (.iload_n 1, 1) := by decide +kernel
theorem dX5_areThere_10 : decode cX5_areThere 10 = .ok (.ifCond .eq 67, 3) := by decide +kernel
theorem dX5_areThere_13 : decode cX5_areThere 13 = .ok (.iload_n 2, 1) := by decide +kernel
theorem dX5_areThere_14 : decode cX5_areThere 14 = .ok (.aload_n 0, 1) := by decide +kernel
theorem dX5_areThere_15 : decode cX5_areThere 15 = .ok (.getfield 60, 3) := by decide +kernel
theorem dX5_areThere_18 : decode cX5_areThere 18 = .ok (.if_icmp .ge 19, 3) := by decide +kernel
theorem dX5_areThere_21 : decode cX5_areThere 21 = .ok (.aload_n 0, 1) := by decide +kernel
theorem dX5_areThere_22 : decode cX5_areThere 22 = .ok (.getfield 25, 3) := by decide +kernel
theorem dX5_areThere_25 : decode cX5_areThere 25 = .ok (.iload_n 2, 1) := by decide +kernel
theorem dX5_areThere_26 : decode cX5_areThere 26 = .ok (.iaload, 1) := by decide +kernel
theorem dX5_areThere_27 : decode cX5_areThere 27 = .ok (.aload_n 0, 1) := by decide +kernel
theorem dX5_areThere_28 : decode cX5_areThere 28 = .ok (.getfield 57, 3) := by decide +kernel
theorem dX5_areThere_31 : decode cX5_areThere 31 = .ok (.if_icmp .ge 46, 3) := by decide +kernel
theorem dX5_areThere_34 : decode cX5_areThere 34 = .ok (.goto 13, 3) := by decide +kernel
theorem dX5_areThere_37 : decode cX5_areThere 37 = .ok (.aload_n 0, 1) := by decide +kernel
theorem dX5_areThere_38 : decode cX5_areThere 38 = .ok (.getfield 25, 3) := by decide +kernel
theorem dX5_areThere_41 : decode cX5_areThere 41 = .ok (.iload_n 2, 1) := by decide +kernel
theorem dX5_areThere_42 : decode cX5_areThere 42 = .ok (.iaload, 1) := by decide +kernel
theorem dX5_areThere_43 : decode cX5_areThere 43 = .ok (.iconst (-1), 1) := by decide +kernel
theorem dX5_areThere_44 : decode cX5_areThere 44 = .ok (.if_icmp .ne 33, 3) := by decide +kernel
theorem dX5_areThere_47 : decode cX5_areThere 47 = .ok (.aload_n 0, 1) := by decide +kernel
theorem dX5_areThere_48 : decode cX5_areThere 48 = .ok (.getfield 66, 3) := by decide +kernel
theorem dX5_areThere_51 : decode cX5_areThere 51 = .ok (.iload_n 2, 1) := by decide +kernel
theorem dX5_areThere_52 : decode cX5_areThere 52 = .ok (.invokestatic 76, 3) := by decide +kernel
theorem dX5_areThere_55 : decode cX5_areThere 55 = .ok (.ifCond .eq 18, 3) := by decide +kernel
theorem dX5_areThere_58 : decode cX5_areThere 58 = .ok (.aload_n 0, 1) := by decide +kernel
theorem dX5_areThere_59 : decode cX5_areThere 59 = .ok (.getfield 25, 3) := by decide +kernel
theorem dX5_areThere_62 : decode cX5_areThere 62 = .ok (.iload_n 2, 1) := by decide +kernel
theorem dX5_areThere_63 : decode cX5_areThere 63 = .ok (.iaload, 1) := by decide +kernel
theorem dX5_areThere_64 : decode cX5_areThere 64 = .ok (.aload_n 0, 1) := by decide +kernel
theorem dX5_areThere_65 : decode cX5_areThere 65 = .ok (.getfield 19, 3) := by decide +kernel
theorem dX5_areThere_68 : decode cX5_areThere 68 = .ok (.iload_n 2, 1) := by decide +kernel
theorem dX5_areThere_69 : decode cX5_areThere 69 = .ok (.iaload, 1) := by decide +kernel
theorem dX5_areThere_70 : decode cX5_areThere 70 = .ok (.if_icmp .ne 7, 3) := by decide +kernel
theorem dX5_areThere_73 : decode cX5_areThere 73 = .ok (.iconst 1, 1) := by decide +kernel
theorem dX5_areThere_74 : decode cX5_areThere 74 = .ok (.goto 4, 3) := by decide +kernel
theorem dX5_areThere_77 : decode cX5_areThere 77 = .ok (.iconst 0, 1) := by decide +kernel
theorem dX5_areThere_78 : decode cX5_areThere 78 = .ok (.istore_n 1, 1) := by decide +kernel
theorem dX5_areThere_79 : decode cX5_areThere 79 = .ok (.iinc 2 1, 3) := by decide +kernel
theorem dX5_areThere_82 : decode cX5_areThere 82 = .ok (.goto (-78), 3) := by decide +kernel
theorem dX5_areThere_85 : decode cX5_areThere 85 = .ok (.iload_n 1, 1) := by decide +kernel
theorem dX5_areThere_86 : decode cX5_areThere 86 = .ok (.ireturn, 1) := by decide +kernel
theorem dX5_layBest_0 : decode cX5_layBest 0 = .ok (.aload_n 0, 1) := by decide +kernel
theorem dX5_layBest_1 : decode cX5_layBest 1 = .ok (.sipush (-1001), 3) := by decide +kernel
theorem dX5_layBest_4 : decode cX5_layBest 4 = .ok (.putfield 114, 3) := by decide +kernel
theorem dX5_layBest_7 : decode cX5_layBest 7 = .ok (.aload_n 0, 1) := by decide +kernel
theorem dX5_layBest_8 : decode cX5_layBest 8 = .ok (.sipush (-1001), 3) := by decide +kernel
theorem dX5_layBest_11 : decode cX5_layBest 11 = .ok (.putfield 117, 3) := by decide +kernel
theorem dX5_layBest_14 : decode cX5_layBest 14 = .ok (.iconst 0, 1) := by decide +kernel
theorem dX5_layBest_15 : decode cX5_layBest 15 = .ok (.istore_n 2, 1) := by decide +kernel
theorem dX5_layBest_16 : decode cX5_layBest 16 = .ok (.iload_n 2, 1) := by decide +kernel
theorem dX5_layBest_17 : decode cX5_layBest 17 = .ok (.sipush 3125, 3) := by decide +kernel
theorem dX5_layBest_20 : decode cX5_layBest 20 = .ok (.if_icmp .ge 100, 3) := by decide +kernel
theorem dX5_layBest_23 : decode cX5_layBest 23 = .ok (.aload_n 0, 1) := by decide +kernel
theorem dX5_layBest_24 : decode cX5_layBest 24 = .ok (.iload_n 2, 1) := by decide +kernel
theorem dX5_layBest_25 : decode cX5_layBest 25 = .ok (.invokevirtual 120, 3) := by decide +kernel
theorem dX5_layBest_28 : decode cX5_layBest 28 = .ok (.aload_n 0, 1) := by decide +kernel
theorem dX5_layBest_29 : decode cX5_layBest 29 = .ok (.getfield 28, 3) := by decide +kernel
theorem dX5_layBest_32 : decode cX5_layBest 32 = .ok (.iload_n 2, 1) := by decide +kernel
theorem dX5_layBest_33 : decode cX5_layBest 33 = .ok (.aload_n 0, 1) := by decide +kernel
theorem dX5_layBest_34 : decode cX5_layBest 34 = .ok (.invokevirtual 124, 3) := by decide +kernel
theorem dX5_layBest_37 : decode cX5_layBest 37 = .ok (.ifCond .eq 15, 3) := by decide +kernel
theorem dX5_layBest_40 : decode cX5_layBest 40 = .ok (.aload_n 0, 1) := by decide +kernel
theorem dX5_layBest_41 : decode cX5_layBest 41 = .ok (.iload_n 1, 1) := by decide +kernel
theorem dX5_layBest_42 : decode cX5_layBest 42 = .ok (.invokevirtual 93, 3) := by decide +kernel
theorem dX5_layBest_45 : decode cX5_layBest 45 = .ok (.ifCond .eq 7, 3) := by decide +kernel
theorem dX5_layBest_48 : decode cX5_layBest 48 = .ok (.iconst 1, 1) := by decide +kernel
theorem dX5_layBest_49 : decode cX5_layBest 49 = .ok (.goto 4, 3) := by decide +kernel
theorem dX5_layBest_52 : decode cX5_layBest 52 = .ok (.iconst 0, 1) := by decide +kernel
theorem dX5_layBest_53 : decode cX5_layBest 53 = .ok (.bastore, 1) := by decide +kernel
theorem dX5_layBest_54 : decode cX5_layBest 54 = .ok (.aload_n 0, 1) := by decide +kernel
theorem dX5_layBest_55 : decode cX5_layBest 55 = .ok (.getfield 28, 3) := by decide +kernel
theorem dX5_layBest_58 : decode cX5_layBest 58 = .ok (.iload_n 2, 1) := by decide +kernel
theorem dX5_layBest_59 : decode cX5_layBest 59 = .ok (.baload, 1) := by decide +kernel
theorem dX5_layBest_60 : decode cX5_layBest 60 = .ok (.ifCond .eq 10, 3) := by decide +kernel
theorem dX5_layBest_63 : decode cX5_layBest 63 = .ok (.aload_n 0, 1) := by decide +kernel
theorem dX5_layBest_64 : decode cX5_layBest 64 = .ok (.invokevirtual 128, 3) := by decide +kernel
theorem dX5_layBest_67 : decode cX5_layBest 67 = .ok (.goto 6, 3) := by decide +kernel
theorem dX5_layBest_70 : decode cX5_layBest 70 = .ok (.sipush (-1001), 3) := by decide +kernel
theorem dX5_layBest_73 : decode cX5_layBest 73 = .ok (.istore_n 3, 1) := by decide +kernel
theorem dX5_layBest_74 : decode cX5_layBest 74 = .ok (.aload_n 0, 1) := by decide +kernel
theorem dX5_layBest_75 : decode cX5_layBest 75 = .ok (.iload_n 3, 1) := by decide +kernel
theorem dX5_layBest_76 : decode cX5_layBest 76 = .ok (.aload_n 0, 1) := by decide +kernel
theorem dX5_layBest_77 : decode cX5_layBest 77 = .ok (.getfield 117, 3) := by decide +kernel
theorem dX5_layBest_80 : decode cX5_layBest 80 = .ok (.if_icmp .le 7, 3) := by decide +kernel
theorem dX5_layBest_83 : decode cX5_layBest 83 = .ok (.iload_n 2, 1) := by decide +kernel
theorem dX5_layBest_84 : decode cX5_layBest 84 = .ok (.goto 7, 3) := by decide +kernel
theorem dX5_layBest_87 : decode cX5_layBest 87 = .ok (.aload_n 0, 1) := by decide +kernel
theorem dX5_layBest_88 : decode cX5_layBest 88 = .ok (.getfield 114, 3) := by decide +kernel
theorem dX5_layBest_91 : decode cX5_layBest 91 = .ok (.putfield 114, 3) := by decide +kernel
theorem dX5_layBest_94 : decode cX5_layBest 94 = .ok (.aload_n 0, 1) := by decide +kernel
theorem dX5_layBest_95 : decode cX5_layBest 95 = .ok (.iload_n 3, 1) := by decide +kernel
theorem dX5_layBest_96 : decode cX5_layBest 96 = .ok (.aload_n 0, 1) := by decide +kernel
theorem dX5_layBest_97 : decode cX5_layBest 97 = .ok (.getfield 117, 3) := by decide +kernel
theorem dX5_layBest_100 : decode cX5_layBest 100 = .ok (.if_icmp .le 7, 3) := by decide +kernel
theorem dX5_layBest_103 : decode cX5_layBest 103 = .ok (.iload_n 3, 1) := by decide +kernel
theorem dX5_layBest_104 : decode cX5_layBest 104 = .ok (.goto 7, 3) := by decide +kernel
theorem dX5_layBest_107 : decode cX5_layBest 107 = .ok (.aload_n 0, 1) := by decide +kernel
theorem dX5_layBest_108 : decode cX5_layBest 108 = .ok (.getfield 117, 3) := by decide +kernel
theorem dX5_layBest_111 : decode cX5_layBest 111 = .ok (.putfield 117, 3) := by decide +kernel
theorem dX5_layBest_114 : decode cX5_layBest 114 = .ok (.iinc 2 1, 3) := by decide +kernel
theorem dX5_layBest_117 : decode cX5_layBest 117 = .ok (.goto (-101), 3) := by decide +kernel
theorem dX5_layBest_120 : decode cX5_layBest 120 = .ok (.return_, 1) := by decide +kernel
theorem dX5_boundNow_0 : decode cX5_boundNow 0 = .ok (.iconst 0, 1) := by decide +kernel
theorem dX5_boundNow_1 : decode cX5_boundNow 1 = .ok (.istore_n 1, 1) := by decide +kernel
theorem dX5_boundNow_2 : decode cX5_boundNow 2 = .ok (.iconst 0, 1) := by decide +kernel
theorem dX5_boundNow_3 : decode cX5_boundNow 3 = .ok (.istore_n 2, 1) := by decide +kernel
theorem dX5_boundNow_4 : decode cX5_boundNow 4 = .ok (.iload_n 2, 1) := by decide +kernel
theorem dX5_boundNow_5 : decode cX5_boundNow 5 = .ok (.aload_n 0, 1) := by decide +kernel
theorem dX5_boundNow_6 : decode cX5_boundNow 6 = .ok (.getfield 60, 3) := by decide +kernel
theorem dX5_boundNow_9 : decode cX5_boundNow 9 = .ok (.if_icmp .ge 106, 3) := by decide +kernel
theorem dX5_boundNow_12 : decode cX5_boundNow 12 = .ok (.aload_n 0, 1) := by decide +kernel
theorem dX5_boundNow_13 : decode cX5_boundNow 13 = .ok (.getfield 66, 3) := by decide +kernel
theorem dX5_boundNow_16 : decode cX5_boundNow 16 = .ok (.iload_n 2, 1) := by decide +kernel
theorem dX5_boundNow_17 : decode cX5_boundNow 17 = .ok (.invokestatic 76, 3) := by decide +kernel
theorem dX5_boundNow_20 : decode cX5_boundNow 20 = .ok (.ifCond .eq 17, 3) := by decide +kernel
theorem dX5_boundNow_23 : decode cX5_boundNow 23 = .ok (.aload_n 0, 1) := by decide +kernel
theorem dX5_boundNow_24 : decode cX5_boundNow 24 = .ok (.iload_n 2, 1) := by decide +kernel
theorem dX5_boundNow_25 : decode cX5_boundNow 25 = .ok (.aload_n 0, 1) := by decide +kernel
theorem dX5_boundNow_26 : decode cX5_boundNow 26 = .ok (.getfield 19, 3) := by decide +kernel
theorem dX5_boundNow_29 : decode cX5_boundNow 29 = .ok (.iload_n 2, 1) := by decide +kernel
theorem dX5_boundNow_30 : decode cX5_boundNow 30 = .ok (.iaload, 1) := by decide +kernel
theorem dX5_boundNow_31 : decode cX5_boundNow 31 = .ok (.invokevirtual 100, 3) := by decide +kernel
theorem dX5_boundNow_34 : decode cX5_boundNow 34 = .ok (.goto 4, 3) := by decide +kernel
theorem dX5_boundNow_37 : decode cX5_boundNow 37 = .ok (.iconst 0, 1) := by decide +kernel
theorem dX5_boundNow_38 : decode cX5_boundNow 38 = .ok (.istore_n 3, 1) := by decide +kernel
theorem dX5_boundNow_39 : decode cX5_boundNow 39 = .ok (.iconst 0, 1) := by decide +kernel
theorem dX5_boundNow_40 : decode cX5_boundNow 40 = .ok (.istore 4, 2) := by decide +kernel
theorem dX5_boundNow_42 : decode cX5_boundNow 42 = .ok (.iload 4, 2) := by decide +kernel
theorem dX5_boundNow_44 : decode cX5_boundNow 44 = .ok (.aload_n 0, 1) := by decide +kernel
theorem dX5_boundNow_45 : decode cX5_boundNow 45 = .ok (.getfield 57, 3) := by decide +kernel
theorem dX5_boundNow_48 : decode cX5_boundNow 48 = .ok (.if_icmp .ge 42, 3) := by decide +kernel
theorem dX5_boundNow_51 : decode cX5_boundNow 51 = .ok (.aload_n 0, 1) := by decide +kernel
theorem dX5_boundNow_52 : decode cX5_boundNow 52 = .ok (.getfield 66, 3) := by decide +kernel
theorem dX5_boundNow_55 : decode cX5_boundNow 55 = .ok (.iload_n 2, 1) := by decide +kernel
theorem dX5_boundNow_56 : decode cX5_boundNow 56 = .ok (.invokestatic 76, 3) := by decide +kernel
theorem dX5_boundNow_59 : decode cX5_boundNow 59 = .ok (.ifCond .ne 31, 3) := by decide +kernel
theorem dX5_boundNow_62 : decode cX5_boundNow 62 = .ok (.aload_n 0, 1) := by decide +kernel
theorem dX5_boundNow_63 : decode cX5_boundNow 63 = .ok (.iload_n 2, 1) := by decide +kernel
theorem dX5_boundNow_64 : decode cX5_boundNow 64 = .ok (.iload 4, 2) := by decide +kernel
theorem dX5_boundNow_66 : decode cX5_boundNow 66 = .ok (.invokevirtual 100, 3) := by decide +kernel
theorem dX5_boundNow_69 : decode cX5_boundNow 69 = .ok (.istore 5, 2) := by decide +kernel
theorem dX5_boundNow_71 : decode cX5_boundNow 71 = .ok (.iload 5, 2) := by decide +kernel
theorem dX5_boundNow_73 : decode cX5_boundNow 73 = .ok (.iload_n 3, 1) := by decide +kernel
theorem dX5_boundNow_74 : decode cX5_boundNow 74 = .ok (.if_icmp .le 8, 3) := by decide +kernel
theorem dX5_boundNow_77 : decode cX5_boundNow 77 = .ok (.iload 5, 2) := by decide +kernel
theorem dX5_boundNow_79 : decode cX5_boundNow 79 = .ok (.goto 4, 3) := by decide +kernel
theorem dX5_boundNow_82 : decode cX5_boundNow 82 = .ok (.iload_n 3, 1) := by decide +kernel
theorem dX5_boundNow_83 : decode cX5_boundNow 83 = .ok (.istore_n 3, 1) := by decide +kernel
theorem dX5_boundNow_84 : decode cX5_boundNow 84 = .ok (.iinc 4 1, 3) := by decide +kernel
theorem dX5_boundNow_87 : decode cX5_boundNow 87 = .ok (.goto (-45), 3) := by decide +kernel
theorem dX5_boundNow_90 : decode cX5_boundNow 90 = .ok (.iload_n 1, 1) := by decide +kernel
theorem dX5_boundNow_91 : decode cX5_boundNow 91 = .ok (.aload_n 0, 1) := by decide +kernel
theorem dX5_boundNow_92 : decode cX5_boundNow 92 = .ok (.getfield 63, 3) := by decide +kernel
theorem dX5_boundNow_95 : decode cX5_boundNow 95 = .ok (.iload_n 2, 1) := by decide +kernel
theorem dX5_boundNow_96 : decode cX5_boundNow 96 = .ok (.invokestatic 76, 3) := by decide +kernel
theorem dX5_boundNow_99 : decode cX5_boundNow 99 = .ok (.ifCond .eq 7, 3) := by decide +kernel
theorem dX5_boundNow_102 : decode cX5_boundNow 102 = .ok (.iconst 0, 1) := by decide +kernel
theorem dX5_boundNow_103 : decode cX5_boundNow 103 = .ok (.goto 4, 3) := by decide +kernel
theorem dX5_boundNow_106 : decode cX5_boundNow 106 = .ok (.iload_n 3, 1) := by decide +kernel
theorem dX5_boundNow_107 : decode cX5_boundNow 107 = .ok (.iadd, 1) := by decide +kernel
theorem dX5_boundNow_108 : decode cX5_boundNow 108 = .ok (.istore_n 1, 1) := by decide +kernel
theorem dX5_boundNow_109 : decode cX5_boundNow 109 = .ok (.iinc 2 1, 3) := by decide +kernel
theorem dX5_boundNow_112 : decode cX5_boundNow 112 = .ok (.goto (-108), 3) := by decide +kernel
theorem dX5_boundNow_115 : decode cX5_boundNow 115 = .ok (.iconst 0, 1) := by decide +kernel
theorem dX5_boundNow_116 : decode cX5_boundNow 116 = .ok (.istore_n 2, 1) := by decide +kernel
theorem dX5_boundNow_117 : decode cX5_boundNow 117 = .ok (.iconst 0, 1) := by decide +kernel
theorem dX5_boundNow_118 : decode cX5_boundNow 118 = .ok (.istore_n 3, 1) := by decide +kernel
theorem dX5_boundNow_119 : decode cX5_boundNow 119 = .ok (.iload_n 3, 1) := by decide +kernel
theorem dX5_boundNow_120 : decode cX5_boundNow 120 = .ok (.aload_n 0, 1) := by decide +kernel
theorem dX5_boundNow_121 : decode cX5_boundNow 121 = .ok (.getfield 57, 3) := by decide +kernel
theorem dX5_boundNow_124 : decode cX5_boundNow 124 = .ok (.if_icmp .ge 18, 3) := by decide +kernel
theorem dX5_boundNow_127 : decode cX5_boundNow 127 = .ok (.iload_n 2, 1) := by decide +kernel
theorem dX5_boundNow_128 : decode cX5_boundNow 128 = .ok (.aload_n 0, 1) := by decide +kernel
theorem dX5_boundNow_129 : decode cX5_boundNow 129 = .ok (.getfield 22, 3) := by decide +kernel
theorem dX5_boundNow_132 : decode cX5_boundNow 132 = .ok (.iload_n 3, 1) := by decide +kernel
theorem dX5_boundNow_133 : decode cX5_boundNow 133 = .ok (.iaload, 1) := by decide +kernel
theorem dX5_boundNow_134 : decode cX5_boundNow 134 = .ok (.iadd, 1) := by decide +kernel
theorem dX5_boundNow_135 : decode cX5_boundNow 135 = .ok (.istore_n 2, 1) := by decide +kernel
theorem dX5_boundNow_136 : decode cX5_boundNow 136 = .ok (.iinc 3 1, 3) := by decide +kernel
theorem dX5_boundNow_139 : decode cX5_boundNow 139 = .ok (.goto (-20), 3) := by decide +kernel
theorem dX5_boundNow_142 : decode cX5_boundNow 142 = .ok (.iload_n 1, 1) := by decide +kernel
theorem dX5_boundNow_143 : decode cX5_boundNow 143 = .ok (.iload_n 2, 1) := by decide +kernel
theorem dX5_boundNow_144 : decode cX5_boundNow 144 = .ok (.if_icmp .ge 7, 3) := by decide +kernel
theorem dX5_boundNow_147 : decode cX5_boundNow 147 = .ok (.iload_n 1, 1) := by decide +kernel
theorem dX5_boundNow_148 : decode cX5_boundNow 148 = .ok (.goto 4, 3) := by decide +kernel
theorem dX5_boundNow_151 : decode cX5_boundNow 151 = .ok (.iload_n 2, 1) := by decide +kernel
theorem dX5_boundNow_152 : decode cX5_boundNow 152 = .ok (.ireturn, 1) := by decide +kernel
theorem dX5_bestNow_0 : decode cX5_bestNow 0 = .ok (.aload_n 0, 1) := by decide +kernel
theorem dX5_bestNow_1 : decode cX5_bestNow 1 = .ok (.getfield 114, 3) := by decide +kernel
theorem dX5_bestNow_4 : decode cX5_bestNow 4 = .ok (.sipush (-1001), 3) := by decide +kernel
theorem dX5_bestNow_7 : decode cX5_bestNow 7 = .ok (.if_icmp .eq 7, 3) := by decide +kernel
theorem dX5_bestNow_10 : decode cX5_bestNow 10 = .ok (.iload_n 1, 1) := by decide +kernel
theorem dX5_bestNow_11 : decode cX5_bestNow 11 = .ok (.ifCond .ne 8, 3) := by decide +kernel
theorem dX5_bestNow_14 : decode cX5_bestNow 14 = .ok (.aload_n 0, 1) := by decide +kernel
theorem dX5_bestNow_15 : decode cX5_bestNow 15 = .ok (.getfield 117, 3) := by decide +kernel
theorem dX5_bestNow_18 : decode cX5_bestNow 18 = .ok (.ireturn, 1) := by decide +kernel
theorem dX5_bestNow_19 : decode cX5_bestNow 19 = .ok (.aload_n 0, 1) := by decide +kernel
theorem dX5_bestNow_20 : decode cX5_bestNow 20 = .ok (.aload_n 0, 1) := by decide +kernel
theorem dX5_bestNow_21 : decode cX5_bestNow 21 = .ok (.getfield 114, 3) := by decide +kernel
theorem dX5_bestNow_24 : decode cX5_bestNow 24 = .ok (.invokevirtual 120, 3) := by decide +kernel
theorem dX5_bestNow_27 : decode cX5_bestNow 27 = .ok (.iload_n 1, 1) := by decide +kernel
theorem dX5_bestNow_28 : decode cX5_bestNow 28 = .ok (.iconst 1, 1) := by decide +kernel
theorem dX5_bestNow_29 : decode cX5_bestNow 29 = .ok (.if_icmp .ne 15, 3) := by decide +kernel
theorem dX5_bestNow_32 : decode cX5_bestNow 32 = .ok (.aload_n 0, 1) := by decide +kernel
theorem dX5_bestNow_33 : decode cX5_bestNow 33 = .ok (.invokevirtual 131, 3) := by decide +kernel
theorem dX5_bestNow_36 : decode cX5_bestNow 36 = .ok (.aload_n 0, 1) := by decide +kernel
theorem dX5_bestNow_37 : decode cX5_bestNow 37 = .ok (.getfield 117, 3) := by decide +kernel
theorem dX5_bestNow_40 : decode cX5_bestNow 40 = .ok (.isub, 1) := by decide +kernel
theorem dX5_bestNow_41 : decode cX5_bestNow 41 = .ok (.goto 29, 3) := by decide +kernel
theorem dX5_bestNow_44 : decode cX5_bestNow 44 = .ok (.aload_n 0, 1) := by decide +kernel
theorem dX5_bestNow_45 : decode cX5_bestNow 45 = .ok (.iload_n 1, 1) := by decide +kernel
theorem dX5_bestNow_46 : decode cX5_bestNow 46 = .ok (.bipush 10, 2) := by decide +kernel
theorem dX5_bestNow_48 : decode cX5_bestNow 48 = .ok (.isub, 1) := by decide +kernel
theorem dX5_bestNow_49 : decode cX5_bestNow 49 = .ok (.invokevirtual 87, 3) := by decide +kernel
theorem dX5_bestNow_52 : decode cX5_bestNow 52 = .ok (.ifCond .eq 15, 3) := by decide +kernel
theorem dX5_bestNow_55 : decode cX5_bestNow 55 = .ok (.aload_n 0, 1) := by decide +kernel
theorem dX5_bestNow_56 : decode cX5_bestNow 56 = .ok (.getfield 25, 3) := by decide +kernel
theorem dX5_bestNow_59 : decode cX5_bestNow 59 = .ok (.iload_n 1, 1) := by decide +kernel
theorem dX5_bestNow_60 : decode cX5_bestNow 60 = .ok (.bipush 10, 2) := by decide +kernel
theorem dX5_bestNow_62 : decode cX5_bestNow 62 = .ok (.isub, 1) := by decide +kernel
theorem dX5_bestNow_63 : decode cX5_bestNow 63 = .ok (.iaload, 1) := by decide +kernel
theorem dX5_bestNow_64 : decode cX5_bestNow 64 = .ok (.goto 6, 3) := by decide +kernel
theorem dX5_bestNow_67 : decode cX5_bestNow 67 = .ok (.sipush (-1001), 3) := by decide +kernel
theorem dX5_bestNow_70 : decode cX5_bestNow 70 = .ok (.ireturn, 1) := by decide +kernel
theorem dX5_best_0 : decode cX5_best 0 = .ok (.aload_n 0, 1) := by decide +kernel
theorem dX5_best_1 : decode cX5_best 1 = .ok (.getfield 60, 3) := by decide +kernel
theorem dX5_best_4 : decode cX5_best 4 = .ok (.ifCond .ne 7, 3) := by decide +kernel
theorem dX5_best_7 : decode cX5_best 7 = .ok (.sipush (-1004), 3) := by decide +kernel
theorem dX5_best_10 : decode cX5_best 10 = .ok (.ireturn, 1) := by decide +kernel
theorem dX5_best_11 : decode cX5_best 11 = .ok (.iload_n 2, 1) := by decide +kernel
theorem dX5_best_12 : decode cX5_best 12 = .ok (.iconst 0, 1) := by decide +kernel
theorem dX5_best_13 : decode cX5_best 13 = .ok (.iconst 1, 1) := by decide +kernel
theorem dX5_best_14 : decode cX5_best 14 = .ok (.invokestatic 41, 3) := by decide +kernel
theorem dX5_best_17 : decode cX5_best 17 = .ok (.ifCond .ne 18, 3) := by decide +kernel
theorem dX5_best_20 : decode cX5_best 20 = .ok (.iload_n 2, 1) := by decide +kernel
theorem dX5_best_21 : decode cX5_best 21 = .ok (.bipush 10, 2) := by decide +kernel
theorem dX5_best_23 : decode cX5_best 23 = .ok (.bipush 14, 2) := by decide +kernel
theorem dX5_best_25 : decode cX5_best 25 = .ok (.invokestatic 41, 3) := by decide +kernel
theorem dX5_best_28 : decode cX5_best 28 = .ok (.ifCond .ne 7, 3) := by decide +kernel
theorem dX5_best_31 : decode cX5_best 31 = .ok (.sipush (-1003), 3) := by decide +kernel
theorem dX5_best_34 : decode cX5_best 34 = .ok (.ireturn, 1) := by decide +kernel
theorem dX5_best_35 : decode cX5_best 35 = .ok (.aload_n 0, 1) := by decide +kernel
theorem dX5_best_36 : decode cX5_best 36 = .ok (.iload_n 1, 1) := by decide +kernel
theorem dX5_best_37 : decode cX5_best 37 = .ok (.invokevirtual 134, 3) := by decide +kernel
theorem dX5_best_40 : decode cX5_best 40 = .ok (.aload_n 0, 1) := by decide +kernel
theorem dX5_best_41 : decode cX5_best 41 = .ok (.iload_n 2, 1) := by decide +kernel
theorem dX5_best_42 : decode cX5_best 42 = .ok (.invokevirtual 138, 3) := by decide +kernel
theorem dX5_best_45 : decode cX5_best 45 = .ok (.ireturn, 1) := by decide +kernel
theorem dX5_figure_0 : decode cX5_figure 0 = .ok (.iload_n 0, 1) := by decide +kernel
theorem dX5_figure_1 : decode cX5_figure 1 = .ok (.iload_n 1, 1) := by decide +kernel
theorem dX5_figure_2 : decode cX5_figure 2 = .ok (.idiv, 1) := by decide +kernel
theorem dX5_figure_3 : decode cX5_figure 3 = .ok (.iconst 5, 1) := by decide +kernel
theorem dX5_figure_4 : decode cX5_figure 4 = .ok (.irem, 1) := by decide +kernel
theorem dX5_figure_5 : decode cX5_figure 5 = .ok (.ireturn, 1) := by decide +kernel
theorem dX5_layFar_0 : decode cX5_layFar 0 = .ok (.iconst 0, 1) := by decide +kernel
theorem dX5_layFar_1 : decode cX5_layFar 1 = .ok (.istore_n 1, 1) := by decide +kernel
theorem dX5_layFar_2 : decode cX5_layFar 2 = .ok (.iload_n 1, 1) := by decide +kernel
theorem dX5_layFar_3 : decode cX5_layFar 3 = .ok (.sipush 3125, 3) := by decide +kernel
theorem dX5_layFar_6 : decode cX5_layFar 6 = .ok (.if_icmp .ge 18, 3) := by decide +kernel
theorem dX5_layFar_9 : decode cX5_layFar 9 = .ok (.aload_n 0, 1) := by decide +kernel
theorem dX5_layFar_10 : decode cX5_layFar 10 = .ok (.getfield 32, 3) := by decide +kernel
theorem dX5_layFar_13 : decode cX5_layFar 13 = .ok (.iload_n 1, 1) := by decide +kernel
theorem dX5_layFar_14 : decode cX5_layFar 14 = .ok (.sipush (-1001), 3) := by decide +kernel
theorem dX5_layFar_17 : decode cX5_layFar 17 = .ok (.iastore, 1) := by decide +kernel
theorem dX5_layFar_18 : decode cX5_layFar 18 = .ok (.iinc 1 1, 3) := by decide +kernel
theorem dX5_layFar_21 : decode cX5_layFar 21 = .ok (.goto (-19), 3) := by decide +kernel
theorem dX5_layFar_24 : decode cX5_layFar 24 = .ok (.iconst 0, 1) := by decide +kernel
theorem dX5_layFar_25 : decode cX5_layFar 25 = .ok (.istore_n 1, 1) := by decide +kernel
theorem dX5_layFar_26 : decode cX5_layFar 26 = .ok (.aload_n 0, 1) := by decide +kernel
theorem dX5_layFar_27 : decode cX5_layFar 27 = .ok (.getfield 114, 3) := by decide +kernel
theorem dX5_layFar_30 : decode cX5_layFar 30 = .ok (.sipush (-1001), 3) := by decide +kernel
theorem dX5_layFar_33 : decode cX5_layFar 33 = .ok (.if_icmp .eq 25, 3) := by decide +kernel
theorem dX5_layFar_36 : decode cX5_layFar 36 = .ok (.aload_n 0, 1) := by decide +kernel
theorem dX5_layFar_37 : decode cX5_layFar 37 = .ok (.getfield 32, 3) := by decide +kernel
theorem dX5_layFar_40 : decode cX5_layFar 40 = .ok (.aload_n 0, 1) := by decide +kernel
theorem dX5_layFar_41 : decode cX5_layFar 41 = .ok (.getfield 114, 3) := by decide +kernel
theorem dX5_layFar_44 : decode cX5_layFar 44 = .ok (.iconst 0, 1) := by decide +kernel
theorem dX5_layFar_45 : decode cX5_layFar 45 = .ok (.iastore, 1) := by decide +kernel
theorem dX5_layFar_46 : decode cX5_layFar 46 = .ok (.aload_n 0, 1) := by decide +kernel
theorem dX5_layFar_47 : decode cX5_layFar 47 = .ok (.getfield 35, 3) := by decide +kernel
theorem dX5_layFar_50 : decode cX5_layFar 50 = .ok (.iconst 0, 1) := by decide +kernel
theorem dX5_layFar_51 : decode cX5_layFar 51 = .ok (.aload_n 0, 1) := by decide +kernel
theorem dX5_layFar_52 : decode cX5_layFar 52 = .ok (.getfield 114, 3) := by decide +kernel
theorem dX5_layFar_55 : decode cX5_layFar 55 = .ok (.iastore, 1) := by decide +kernel
theorem dX5_layFar_56 : decode cX5_layFar 56 = .ok (.iconst 1, 1) := by decide +kernel
theorem dX5_layFar_57 : decode cX5_layFar 57 = .ok (.istore_n 1, 1) := by decide +kernel
theorem dX5_layFar_58 : decode cX5_layFar 58 = .ok (.iconst 0, 1) := by decide +kernel
theorem dX5_layFar_59 : decode cX5_layFar 59 = .ok (.istore_n 2, 1) := by decide +kernel
theorem dX5_layFar_60 : decode cX5_layFar 60 = .ok (.iload_n 2, 1) := by decide +kernel
theorem dX5_layFar_61 : decode cX5_layFar 61 = .ok (.iload_n 1, 1) := by decide +kernel
theorem dX5_layFar_62 : decode cX5_layFar 62 = .ok (.if_icmp .ge 132, 3) := by decide +kernel
theorem dX5_layFar_65 : decode cX5_layFar 65 = .ok (.aload_n 0, 1) := by decide +kernel
theorem dX5_layFar_66 : decode cX5_layFar 66 = .ok (.getfield 35, 3) := by decide +kernel
theorem dX5_layFar_69 : decode cX5_layFar 69 = .ok (.iload_n 2, 1) := by decide +kernel
theorem dX5_layFar_70 : decode cX5_layFar 70 = .ok (.iaload, 1) := by decide +kernel
theorem dX5_layFar_71 : decode cX5_layFar 71 = .ok (.istore_n 3, 1) := by decide +kernel
theorem dX5_layFar_72 : decode cX5_layFar 72 = .ok (.iconst 0, 1) := by decide +kernel
theorem dX5_layFar_73 : decode cX5_layFar 73 = .ok (.istore 4, 2) := by decide +kernel
theorem dX5_layFar_75 : decode cX5_layFar 75 = .ok (.iload 4, 2) := by decide +kernel
theorem dX5_layFar_77 : decode cX5_layFar 77 = .ok (.aload_n 0, 1) := by decide +kernel
theorem dX5_layFar_78 : decode cX5_layFar 78 = .ok (.getfield 60, 3) := by decide +kernel
theorem dX5_layFar_81 : decode cX5_layFar 81 = .ok (.if_icmp .ge 107, 3) := by decide +kernel
theorem dX5_layFar_84 : decode cX5_layFar 84 = .ok (.aload_n 0, 1) := by decide +kernel
theorem dX5_layFar_85 : decode cX5_layFar 85 = .ok (.iload 4, 2) := by decide +kernel
theorem dX5_layFar_87 : decode cX5_layFar 87 = .ok (.invokevirtual 141, 3) := by decide +kernel
theorem dX5_layFar_90 : decode cX5_layFar 90 = .ok (.istore 5, 2) := by decide +kernel
theorem dX5_layFar_92 : decode cX5_layFar 92 = .ok (.iload_n 3, 1) := by decide +kernel
theorem dX5_layFar_93 : decode cX5_layFar 93 = .ok (.iload 5, 2) := by decide +kernel
theorem dX5_layFar_95 : decode cX5_layFar 95 = .ok (.iload_n 3, 1) := by decide +kernel
theorem dX5_layFar_96 : decode cX5_layFar 96 = .ok (.iload 5, 2) := by decide +kernel
theorem dX5_layFar_98 : decode cX5_layFar 98 = .ok (.invokestatic 144, 3) := by decide +kernel
theorem dX5_layFar_101 : decode cX5_layFar 101 = .ok (.imul, 1) := by decide +kernel
theorem dX5_layFar_102 : decode cX5_layFar 102 = .ok (.isub, 1) := by decide +kernel
theorem dX5_layFar_103 : decode cX5_layFar 103 = .ok (.istore 6, 2) := by decide +kernel
theorem dX5_layFar_105 : decode cX5_layFar 105 = .ok (.iconst 0, 1) := by decide +kernel
theorem dX5_layFar_106 : decode cX5_layFar 106 = .ok (.istore 7, 2) := by decide +kernel
theorem dX5_layFar_108 : decode cX5_layFar 108 = .ok (.iload 7, 2) := by decide +kernel
theorem dX5_layFar_110 : decode cX5_layFar 110 = .ok (.aload_n 0, 1) := by decide +kernel
theorem dX5_layFar_111 : decode cX5_layFar 111 = .ok (.getfield 57, 3) := by decide +kernel
theorem dX5_layFar_114 : decode cX5_layFar 114 = .ok (.if_icmp .gt 68, 3) := by decide +kernel
theorem dX5_layFar_117 : decode cX5_layFar 117 = .ok (.iload 6, 2) := by decide +kernel
theorem dX5_layFar_119 : decode cX5_layFar 119 = .ok (.iload 5, 2) := by decide +kernel
theorem dX5_layFar_121 : decode cX5_layFar 121 = .ok (.iload 7, 2) := by decide +kernel
theorem dX5_layFar_123 : decode cX5_layFar 123 = .ok (.imul, 1) := by decide +kernel
theorem dX5_layFar_124 : decode cX5_layFar 124 = .ok (.iadd, 1) := by decide +kernel
theorem dX5_layFar_125 : decode cX5_layFar 125 = .ok (.istore 8, 2) := by decide +kernel
theorem dX5_layFar_127 : decode cX5_layFar 127 = .ok (.aload_n 0, 1) := by decide +kernel
theorem dX5_layFar_128 : decode cX5_layFar 128 = .ok (.getfield 28, 3) := by decide +kernel
theorem dX5_layFar_131 : decode cX5_layFar 131 = .ok (.iload 8, 2) := by decide +kernel
theorem dX5_layFar_133 : decode cX5_layFar 133 = .ok (.baload, 1) := by decide +kernel
theorem dX5_layFar_134 : decode cX5_layFar 134 = .ok (.ifCond .eq 42, 3) := by decide +kernel
theorem dX5_layFar_137 : decode cX5_layFar 137 = .ok (.aload_n 0, 1) := by decide +kernel
theorem dX5_layFar_138 : decode cX5_layFar 138 = .ok (.getfield 32, 3) := by decide +kernel
theorem dX5_layFar_141 : decode cX5_layFar 141 = .ok (.iload 8, 2) := by decide +kernel
theorem dX5_layFar_143 : decode cX5_layFar 143 = .ok (.iaload, 1) := by decide +kernel
theorem dX5_layFar_144 : decode cX5_layFar 144 = .ok (.sipush (-1001), 3) := by decide +kernel
theorem dX5_layFar_147 : decode cX5_layFar 147 = .ok (.if_icmp .ne 29, 3) := by decide +kernel
theorem dX5_layFar_150 : decode cX5_layFar 150 = .ok (.aload_n 0, 1) := by decide +kernel
theorem dX5_layFar_151 : decode cX5_layFar 151 = .ok (.getfield 32, 3) := by decide +kernel
theorem dX5_layFar_154 : decode cX5_layFar 154 = .ok (.iload 8, 2) := by decide +kernel
theorem dX5_layFar_156 : decode cX5_layFar 156 = .ok (.aload_n 0, 1) := by decide +kernel
theorem dX5_layFar_157 : decode cX5_layFar 157 = .ok (.getfield 32, 3) := by decide +kernel
theorem dX5_layFar_160 : decode cX5_layFar 160 = .ok (.iload_n 3, 1) := by decide +kernel
theorem dX5_layFar_161 : decode cX5_layFar 161 = .ok (.iaload, 1) := by decide +kernel
theorem dX5_layFar_162 : decode cX5_layFar 162 = .ok (.iconst 1, 1) := by decide +kernel
theorem dX5_layFar_163 : decode cX5_layFar 163 = .ok (.iadd, 1) := by decide +kernel
theorem dX5_layFar_164 : decode cX5_layFar 164 = .ok (.iastore, 1) := by decide +kernel
theorem dX5_layFar_165 : decode cX5_layFar 165 = .ok (.aload_n 0, 1) := by decide +kernel
theorem dX5_layFar_166 : decode cX5_layFar 166 = .ok (.getfield 35, 3) := by decide +kernel
theorem dX5_layFar_169 : decode cX5_layFar 169 = .ok (.iload_n 1, 1) := by decide +kernel
theorem dX5_layFar_170 : decode cX5_layFar 170 = .ok (.iload 8, 2) := by decide +kernel
theorem dX5_layFar_172 : decode cX5_layFar 172 = .ok (.iastore, 1) := by decide +kernel
theorem dX5_layFar_173 : decode cX5_layFar 173 = .ok (.iinc 1 1, 3) := by decide +kernel
theorem dX5_layFar_176 : decode cX5_layFar 176 = .ok (.iinc 7 1, 3) := by decide +kernel
theorem dX5_layFar_179 : decode cX5_layFar 179 = .ok (.goto (-71), 3) := by decide +kernel
theorem dX5_layFar_182 : decode cX5_layFar 182 = .ok (.iinc 4 1, 3) := by decide +kernel
theorem dX5_layFar_185 : decode cX5_layFar 185 = .ok (.goto (-110), 3) := by decide +kernel
theorem dX5_layFar_188 : decode cX5_layFar 188 = .ok (.iinc 2 1, 3) := by decide +kernel
theorem dX5_layFar_191 : decode cX5_layFar 191 = .ok (.goto (-131), 3) := by decide +kernel
theorem dX5_layFar_194 : decode cX5_layFar 194 = .ok (.return_, 1) := by decide +kernel
theorem dX5_moveFrom_0 : decode cX5_moveFrom 0 = .ok (.iconst 0, 1) := by decide +kernel
theorem dX5_moveFrom_1 : decode cX5_moveFrom 1 = .ok (.istore_n 3, 1) := by decide +kernel
theorem dX5_moveFrom_2 : decode cX5_moveFrom 2 = .ok (.iload_n 3, 1) := by decide +kernel
theorem dX5_moveFrom_3 : decode cX5_moveFrom 3 = .ok (.aload_n 0, 1) := by decide +kernel
theorem dX5_moveFrom_4 : decode cX5_moveFrom 4 = .ok (.getfield 60, 3) := by decide +kernel
theorem dX5_moveFrom_7 : decode cX5_moveFrom 7 = .ok (.if_icmp .ge 96, 3) := by decide +kernel
theorem dX5_moveFrom_10 : decode cX5_moveFrom 10 = .ok (.aload_n 0, 1) := by decide +kernel
theorem dX5_moveFrom_11 : decode cX5_moveFrom 11 = .ok (.iload_n 3, 1) := by decide +kernel
theorem dX5_moveFrom_12 : decode cX5_moveFrom 12 = .ok (.invokevirtual 141, 3) := by decide +kernel
theorem dX5_moveFrom_15 : decode cX5_moveFrom 15 = .ok (.istore 4, 2) := by decide +kernel
theorem dX5_moveFrom_17 : decode cX5_moveFrom 17 = .ok (.iconst 0, 1) := by decide +kernel
theorem dX5_moveFrom_18 : decode cX5_moveFrom 18 = .ok (.istore 5, 2) := by decide +kernel
theorem dX5_moveFrom_20 : decode cX5_moveFrom 20 = .ok (.iload 5, 2) := by decide +kernel
theorem dX5_moveFrom_22 : decode cX5_moveFrom 22 = .ok (.aload_n 0, 1) := by decide +kernel
theorem dX5_moveFrom_23 : decode cX5_moveFrom 23 = .ok (.getfield 57, 3) := by decide +kernel
theorem dX5_moveFrom_26 : decode cX5_moveFrom 26 = .ok (.if_icmp .gt 71, 3) := by decide +kernel
theorem dX5_moveFrom_29 : decode cX5_moveFrom 29 = .ok (.aload_n 0, 1) := by decide +kernel
theorem dX5_moveFrom_30 : decode cX5_moveFrom 30 = .ok (.getfield 66, 3) := by decide +kernel
theorem dX5_moveFrom_33 : decode cX5_moveFrom 33 = .ok (.iload_n 3, 1) := by decide +kernel
theorem dX5_moveFrom_34 : decode cX5_moveFrom 34 = .ok (.invokestatic 76, 3) := by decide +kernel
theorem dX5_moveFrom_37 : decode cX5_moveFrom 37 = .ok (.ifCond .ne 60, 3) := by decide +kernel
theorem dX5_moveFrom_40 : decode cX5_moveFrom 40 = .ok (.iload_n 1, 1) := by decide +kernel
theorem dX5_moveFrom_41 : decode cX5_moveFrom 41 = .ok (.iload 4, 2) := by decide +kernel
theorem dX5_moveFrom_43 : decode cX5_moveFrom 43 = .ok (.iload 5, 2) := by decide +kernel
theorem dX5_moveFrom_45 : decode cX5_moveFrom 45 = .ok (.iload_n 1, 1) := by decide +kernel
theorem dX5_moveFrom_46 : decode cX5_moveFrom 46 = .ok (.iload 4, 2) := by decide +kernel
theorem dX5_moveFrom_48 : decode cX5_moveFrom 48 = .ok (.invokestatic 144, 3) := by decide +kernel
theorem dX5_moveFrom_51 : decode cX5_moveFrom 51 = .ok (.isub, 1) := by decide +kernel
theorem dX5_moveFrom_52 : decode cX5_moveFrom 52 = .ok (.imul, 1) := by decide +kernel
theorem dX5_moveFrom_53 : decode cX5_moveFrom 53 = .ok (.iadd, 1) := by decide +kernel
theorem dX5_moveFrom_54 : decode cX5_moveFrom 54 = .ok (.istore 6, 2) := by decide +kernel
theorem dX5_moveFrom_56 : decode cX5_moveFrom 56 = .ok (.iload 6, 2) := by decide +kernel
theorem dX5_moveFrom_58 : decode cX5_moveFrom 58 = .ok (.iload_n 1, 1) := by decide +kernel
theorem dX5_moveFrom_59 : decode cX5_moveFrom 59 = .ok (.if_icmp .eq 32, 3) := by decide +kernel
theorem dX5_moveFrom_62 : decode cX5_moveFrom 62 = .ok (.aload_n 0, 1) := by decide +kernel
theorem dX5_moveFrom_63 : decode cX5_moveFrom 63 = .ok (.getfield 28, 3) := by decide +kernel
theorem dX5_moveFrom_66 : decode cX5_moveFrom 66 = .ok (.iload 6, 2) := by decide +kernel
theorem dX5_moveFrom_68 : decode cX5_moveFrom 68 = .ok (.baload, 1) := by decide +kernel
theorem dX5_moveFrom_69 : decode cX5_moveFrom 69 = .ok (.ifCond .eq 22, 3) := by decide +kernel
theorem dX5_moveFrom_72 : decode cX5_moveFrom 72 = .ok (.aload_n 0, 1) := by decide +kernel
theorem dX5_moveFrom_73 : decode cX5_moveFrom 73 = .ok (.getfield 32, 3) := by decide +kernel
theorem dX5_moveFrom_76 : decode cX5_moveFrom 76 = .ok (.iload 6, 2) := by decide +kernel
theorem dX5_moveFrom_78 : decode cX5_moveFrom 78 = .ok (.iaload, 1) := by decide +kernel
theorem dX5_moveFrom_79 : decode cX5_moveFrom 79 = .ok (.iload_n 2, 1) := by decide +kernel
theorem dX5_moveFrom_80 : decode cX5_moveFrom 80 = .ok (.if_icmp .ne 11, 3) := by decide +kernel
theorem dX5_moveFrom_83 : decode cX5_moveFrom 83 = .ok (.bipush 8, 2) := by decide +kernel
theorem dX5_moveFrom_85 : decode cX5_moveFrom 85 = .ok (.iload_n 3, 1) := by decide +kernel
theorem dX5_moveFrom_86 : decode cX5_moveFrom 86 = .ok (.imul, 1) := by decide +kernel
theorem dX5_moveFrom_87 : decode cX5_moveFrom 87 = .ok (.iload 5, 2) := by decide +kernel
theorem dX5_moveFrom_89 : decode cX5_moveFrom 89 = .ok (.iadd, 1) := by decide +kernel
theorem dX5_moveFrom_90 : decode cX5_moveFrom 90 = .ok (.ireturn, 1) := by decide +kernel
theorem dX5_moveFrom_91 : decode cX5_moveFrom 91 = .ok (.iinc 5 1, 3) := by decide +kernel
theorem dX5_moveFrom_94 : decode cX5_moveFrom 94 = .ok (.goto (-74), 3) := by decide +kernel
theorem dX5_moveFrom_97 : decode cX5_moveFrom 97 = .ok (.iinc 3 1, 3) := by decide +kernel
theorem dX5_moveFrom_100 : decode cX5_moveFrom 100 = .ok (.goto (-98), 3) := by decide +kernel
theorem dX5_moveFrom_103 : decode cX5_moveFrom 103 = .ok (.sipush (-1001), 3) := by decide +kernel
theorem dX5_moveFrom_106 : decode cX5_moveFrom 106 = .ok (.ireturn, 1) := by decide +kernel
theorem dX5_moved_0 : decode cX5_moved 0 = .ok (.aload_n 0, 1) := by decide +kernel
theorem dX5_moved_1 : decode cX5_moved 1 = .ok (.iload_n 2, 1) := by decide +kernel
theorem dX5_moved_2 : decode cX5_moved 2 = .ok (.bipush 8, 2) := by decide +kernel
theorem dX5_moved_4 : decode cX5_moved 4 = .ok (.idiv, 1) := by decide +kernel
theorem dX5_moved_5 : decode cX5_moved 5 = .ok (.invokevirtual 141, 3) := by decide +kernel
theorem dX5_moved_8 : decode cX5_moved 8 = .ok (.istore_n 3, 1) := by decide +kernel
theorem dX5_moved_9 : decode cX5_moved 9 = .ok (.iload_n 1, 1) := by decide +kernel
theorem dX5_moved_10 : decode cX5_moved 10 = .ok (.iload_n 3, 1) := by decide +kernel
theorem dX5_moved_11 : decode cX5_moved 11 = .ok (.iload_n 2, 1) := by decide +kernel
theorem dX5_moved_12 : decode cX5_moved 12 = .ok (.bipush 8, 2) := by decide +kernel
theorem dX5_moved_14 : decode cX5_moved 14 = .ok (.irem, 1) := by decide +kernel
theorem dX5_moved_15 : decode cX5_moved 15 = .ok (.iload_n 1, 1) := by decide +kernel
theorem dX5_moved_16 : decode cX5_moved 16 = .ok (.iload_n 3, 1) := by decide +kernel
theorem dX5_moved_17 : decode cX5_moved 17 = .ok (.invokestatic 144, 3) := by decide +kernel
theorem dX5_moved_20 : decode cX5_moved 20 = .ok (.isub, 1) := by decide +kernel
theorem dX5_moved_21 : decode cX5_moved 21 = .ok (.imul, 1) := by decide +kernel
theorem dX5_moved_22 : decode cX5_moved 22 = .ok (.iadd, 1) := by decide +kernel
theorem dX5_moved_23 : decode cX5_moved 23 = .ok (.ireturn, 1) := by decide +kernel
theorem dX5_layChange_0 : decode cX5_layChange 0 = .ok (.aload_n 0, 1) := by decide +kernel
theorem dX5_layChange_1 : decode cX5_layChange 1 = .ok (.iload_n 1, 1) := by decide +kernel
theorem dX5_layChange_2 : decode cX5_layChange 2 = .ok (.invokevirtual 134, 3) := by decide +kernel
theorem dX5_layChange_5 : decode cX5_layChange 5 = .ok (.aload_n 0, 1) := by decide +kernel
theorem dX5_layChange_6 : decode cX5_layChange 6 = .ok (.invokevirtual 147, 3) := by decide +kernel
theorem dX5_layChange_9 : decode cX5_layChange 9 = .ok (.aload_n 0, 1) := by decide +kernel
theorem dX5_layChange_10 : decode cX5_layChange 10 = .ok (.invokevirtual 90, 3) := by decide +kernel
theorem dX5_layChange_13 : decode cX5_layChange 13 = .ok (.aload_n 0, 1) := by decide +kernel
theorem dX5_layChange_14 : decode cX5_layChange 14 = .ok (.invokevirtual 150, 3) := by decide +kernel
theorem dX5_layChange_17 : decode cX5_layChange 17 = .ok (.istore_n 2, 1) := by decide +kernel
theorem dX5_layChange_18 : decode cX5_layChange 18 = .ok (.aload_n 0, 1) := by decide +kernel
theorem dX5_layChange_19 : decode cX5_layChange 19 = .ok (.iload_n 2, 1) := by decide +kernel
theorem dX5_layChange_20 : decode cX5_layChange 20 = .ok (.aload_n 0, 1) := by decide +kernel
theorem dX5_layChange_21 : decode cX5_layChange 21 = .ok (.getfield 114, 3) := by decide +kernel
theorem dX5_layChange_24 : decode cX5_layChange 24 = .ok (.if_icmp .ne 7, 3) := by decide +kernel
theorem dX5_layChange_27 : decode cX5_layChange 27 = .ok (.iconst 0, 1) := by decide +kernel
theorem dX5_layChange_28 : decode cX5_layChange 28 = .ok (.goto 6, 3) := by decide +kernel
theorem dX5_layChange_31 : decode cX5_layChange 31 = .ok (.sipush (-1001), 3) := by decide +kernel
theorem dX5_layChange_34 : decode cX5_layChange 34 = .ok (.putfield 153, 3) := by decide +kernel
theorem dX5_layChange_37 : decode cX5_layChange 37 = .ok (.iconst 0, 1) := by decide +kernel
theorem dX5_layChange_38 : decode cX5_layChange 38 = .ok (.istore_n 3, 1) := by decide +kernel
theorem dX5_layChange_39 : decode cX5_layChange 39 = .ok (.iload_n 3, 1) := by decide +kernel
theorem dX5_layChange_40 : decode cX5_layChange 40 = .ok (.sipush 3125, 3) := by decide +kernel
theorem dX5_layChange_43 : decode cX5_layChange 43 = .ok (.if_icmp .ge 54, 3) := by decide +kernel
theorem dX5_layChange_46 : decode cX5_layChange 46 = .ok (.aload_n 0, 1) := by decide +kernel
theorem dX5_layChange_47 : decode cX5_layChange 47 = .ok (.getfield 153, 3) := by decide +kernel
theorem dX5_layChange_50 : decode cX5_layChange 50 = .ok (.sipush (-1001), 3) := by decide +kernel
theorem dX5_layChange_53 : decode cX5_layChange 53 = .ok (.if_icmp .ne 44, 3) := by decide +kernel
theorem dX5_layChange_56 : decode cX5_layChange 56 = .ok (.aload_n 0, 1) := by decide +kernel
theorem dX5_layChange_57 : decode cX5_layChange 57 = .ok (.getfield 114, 3) := by decide +kernel
theorem dX5_layChange_60 : decode cX5_layChange 60 = .ok (.sipush (-1001), 3) := by decide +kernel
theorem dX5_layChange_63 : decode cX5_layChange 63 = .ok (.if_icmp .eq 34, 3) := by decide +kernel
theorem dX5_layChange_66 : decode cX5_layChange 66 = .ok (.aload_n 0, 1) := by decide +kernel
theorem dX5_layChange_67 : decode cX5_layChange 67 = .ok (.aload_n 0, 1) := by decide +kernel
theorem dX5_layChange_68 : decode cX5_layChange 68 = .ok (.iload_n 2, 1) := by decide +kernel
theorem dX5_layChange_69 : decode cX5_layChange 69 = .ok (.iload_n 3, 1) := by decide +kernel
theorem dX5_layChange_70 : decode cX5_layChange 70 = .ok (.invokevirtual 156, 3) := by decide +kernel
theorem dX5_layChange_73 : decode cX5_layChange 73 = .ok (.sipush (-1001), 3) := by decide +kernel
theorem dX5_layChange_76 : decode cX5_layChange 76 = .ok (.if_icmp .ne 9, 3) := by decide +kernel
theorem dX5_layChange_79 : decode cX5_layChange 79 = .ok (.sipush (-1001), 3) := by decide +kernel
theorem dX5_layChange_82 : decode cX5_layChange 82 = .ok (.goto 6, 3) := by decide +kernel
theorem dX5_layChange_85 : decode cX5_layChange 85 = .ok (.iload_n 3, 1) := by decide +kernel
theorem dX5_layChange_86 : decode cX5_layChange 86 = .ok (.iconst 1, 1) := by decide +kernel
theorem dX5_layChange_87 : decode cX5_layChange 87 = .ok (.iadd, 1) := by decide +kernel
theorem dX5_layChange_88 : decode cX5_layChange 88 = .ok (.putfield 153, 3) := by decide +kernel
theorem dX5_layChange_91 : decode cX5_layChange 91 = .ok (.iinc 3 1, 3) := by decide +kernel
theorem dX5_layChange_94 : decode cX5_layChange 94 = .ok (.goto (-55), 3) := by decide +kernel
theorem dX5_layChange_97 : decode cX5_layChange 97 = .ok (.iconst 0, 1) := by decide +kernel
theorem dX5_layChange_98 : decode cX5_layChange 98 = .ok (.istore_n 3, 1) := by decide +kernel
theorem dX5_layChange_99 : decode cX5_layChange 99 = .ok (.iload_n 3, 1) := by decide +kernel
theorem dX5_layChange_100 : decode cX5_layChange 100 = .ok (.aload_n 0, 1) := by decide +kernel
theorem dX5_layChange_101 : decode cX5_layChange 101 = .ok (.getfield 153, 3) := by decide +kernel
theorem dX5_layChange_104 : decode cX5_layChange 104 = .ok (.if_icmp .ge 46, 3) := by decide +kernel
theorem dX5_layChange_107 : decode cX5_layChange 107 = .ok (.iload_n 3, 1) := by decide +kernel
theorem dX5_layChange_108 : decode cX5_layChange 108 = .ok (.bipush 15, 2) := by decide +kernel
theorem dX5_layChange_110 : decode cX5_layChange 110 = .ok (.if_icmp .ge 40, 3) := by decide +kernel
theorem dX5_layChange_113 : decode cX5_layChange 113 = .ok (.aload_n 0, 1) := by decide +kernel
theorem dX5_layChange_114 : decode cX5_layChange 114 = .ok (.getfield 38, 3) := by decide +kernel
theorem dX5_layChange_117 : decode cX5_layChange 117 = .ok (.iload_n 3, 1) := by decide +kernel
theorem dX5_layChange_118 : decode cX5_layChange 118 = .ok (.aload_n 0, 1) := by decide +kernel
theorem dX5_layChange_119 : decode cX5_layChange 119 = .ok (.iload_n 2, 1) := by decide +kernel
theorem dX5_layChange_120 : decode cX5_layChange 120 = .ok (.aload_n 0, 1) := by decide +kernel
theorem dX5_layChange_121 : decode cX5_layChange 121 = .ok (.getfield 153, 3) := by decide +kernel
theorem dX5_layChange_124 : decode cX5_layChange 124 = .ok (.iconst 1, 1) := by decide +kernel
theorem dX5_layChange_125 : decode cX5_layChange 125 = .ok (.isub, 1) := by decide +kernel
theorem dX5_layChange_126 : decode cX5_layChange 126 = .ok (.iload_n 3, 1) := by decide +kernel
theorem dX5_layChange_127 : decode cX5_layChange 127 = .ok (.isub, 1) := by decide +kernel
theorem dX5_layChange_128 : decode cX5_layChange 128 = .ok (.invokevirtual 156, 3) := by decide +kernel
theorem dX5_layChange_131 : decode cX5_layChange 131 = .ok (.iastore, 1) := by decide +kernel
theorem dX5_layChange_132 : decode cX5_layChange 132 = .ok (.aload_n 0, 1) := by decide +kernel
theorem dX5_layChange_133 : decode cX5_layChange 133 = .ok (.iload_n 2, 1) := by decide +kernel
theorem dX5_layChange_134 : decode cX5_layChange 134 = .ok (.aload_n 0, 1) := by decide +kernel
theorem dX5_layChange_135 : decode cX5_layChange 135 = .ok (.getfield 38, 3) := by decide +kernel
theorem dX5_layChange_138 : decode cX5_layChange 138 = .ok (.iload_n 3, 1) := by decide +kernel
theorem dX5_layChange_139 : decode cX5_layChange 139 = .ok (.iaload, 1) := by decide +kernel
theorem dX5_layChange_140 : decode cX5_layChange 140 = .ok (.invokevirtual 159, 3) := by decide +kernel
theorem dX5_layChange_143 : decode cX5_layChange 143 = .ok (.istore_n 2, 1) := by decide +kernel
theorem dX5_layChange_144 : decode cX5_layChange 144 = .ok (.iinc 3 1, 3) := by decide +kernel
theorem dX5_layChange_147 : decode cX5_layChange 147 = .ok (.goto (-48), 3) := by decide +kernel
theorem dX5_layChange_150 : decode cX5_layChange 150 = .ok (.return_, 1) := by decide +kernel
theorem dX5_changeNow_0 : decode cX5_changeNow 0 = .ok (.iload_n 1, 1) := by decide +kernel
theorem dX5_changeNow_1 : decode cX5_changeNow 1 = .ok (.ifCond .ne 8, 3) := by decide +kernel
theorem dX5_changeNow_4 : decode cX5_changeNow 4 = .ok (.aload_n 0, 1) := by decide +kernel
theorem dX5_changeNow_5 : decode cX5_changeNow 5 = .ok (.getfield 153, 3) := by decide +kernel
theorem dX5_changeNow_8 : decode cX5_changeNow 8 = .ok (.ireturn, 1) := by decide +kernel
theorem dX5_changeNow_9 : decode cX5_changeNow 9 = .ok (.iload_n 1, 1) := by decide +kernel
theorem dX5_changeNow_10 : decode cX5_changeNow 10 = .ok (.bipush 10, 2) := by decide +kernel
theorem dX5_changeNow_12 : decode cX5_changeNow 12 = .ok (.isub, 1) := by decide +kernel
theorem dX5_changeNow_13 : decode cX5_changeNow 13 = .ok (.aload_n 0, 1) := by decide +kernel
theorem dX5_changeNow_14 : decode cX5_changeNow 14 = .ok (.getfield 153, 3) := by decide +kernel
theorem dX5_changeNow_17 : decode cX5_changeNow 17 = .ok (.if_icmp .ge 15, 3) := by decide +kernel
theorem dX5_changeNow_20 : decode cX5_changeNow 20 = .ok (.aload_n 0, 1) := by decide +kernel
theorem dX5_changeNow_21 : decode cX5_changeNow 21 = .ok (.getfield 38, 3) := by decide +kernel
theorem dX5_changeNow_24 : decode cX5_changeNow 24 = .ok (.iload_n 1, 1) := by decide +kernel
theorem dX5_changeNow_25 : decode cX5_changeNow 25 = .ok (.bipush 10, 2) := by decide +kernel
theorem dX5_changeNow_27 : decode cX5_changeNow 27 = .ok (.isub, 1) := by decide +kernel
theorem dX5_changeNow_28 : decode cX5_changeNow 28 = .ok (.iaload, 1) := by decide +kernel
theorem dX5_changeNow_29 : decode cX5_changeNow 29 = .ok (.goto 6, 3) := by decide +kernel
theorem dX5_changeNow_32 : decode cX5_changeNow 32 = .ok (.sipush (-1001), 3) := by decide +kernel
theorem dX5_changeNow_35 : decode cX5_changeNow 35 = .ok (.ireturn, 1) := by decide +kernel
theorem dX5_change_0 : decode cX5_change 0 = .ok (.aload_n 0, 1) := by decide +kernel
theorem dX5_change_1 : decode cX5_change 1 = .ok (.getfield 60, 3) := by decide +kernel
theorem dX5_change_4 : decode cX5_change 4 = .ok (.ifCond .ne 7, 3) := by decide +kernel
theorem dX5_change_7 : decode cX5_change 7 = .ok (.sipush (-1004), 3) := by decide +kernel
theorem dX5_change_10 : decode cX5_change 10 = .ok (.ireturn, 1) := by decide +kernel
theorem dX5_change_11 : decode cX5_change 11 = .ok (.iload_n 2, 1) := by decide +kernel
theorem dX5_change_12 : decode cX5_change 12 = .ok (.ifCond .eq 18, 3) := by decide +kernel
theorem dX5_change_15 : decode cX5_change 15 = .ok (.iload_n 2, 1) := by decide +kernel
theorem dX5_change_16 : decode cX5_change 16 = .ok (.bipush 10, 2) := by decide +kernel
theorem dX5_change_18 : decode cX5_change 18 = .ok (.bipush 24, 2) := by decide +kernel
theorem dX5_change_20 : decode cX5_change 20 = .ok (.invokestatic 41, 3) := by decide +kernel
theorem dX5_change_23 : decode cX5_change 23 = .ok (.ifCond .ne 7, 3) := by decide +kernel
theorem dX5_change_26 : decode cX5_change 26 = .ok (.sipush (-1003), 3) := by decide +kernel
theorem dX5_change_29 : decode cX5_change 29 = .ok (.ireturn, 1) := by decide +kernel
theorem dX5_change_30 : decode cX5_change 30 = .ok (.aload_n 0, 1) := by decide +kernel
theorem dX5_change_31 : decode cX5_change 31 = .ok (.iload_n 1, 1) := by decide +kernel
theorem dX5_change_32 : decode cX5_change 32 = .ok (.invokevirtual 162, 3) := by decide +kernel
theorem dX5_change_35 : decode cX5_change 35 = .ok (.aload_n 0, 1) := by decide +kernel
theorem dX5_change_36 : decode cX5_change 36 = .ok (.iload_n 2, 1) := by decide +kernel
theorem dX5_change_37 : decode cX5_change 37 = .ok (.invokevirtual 165, 3) := by decide +kernel
theorem dX5_change_40 : decode cX5_change 40 = .ok (.ireturn, 1) := by decide +kernel
theorem dX5_go_0 : decode cX5_go 0 = .ok (.aload_n 0, 1) := by decide +kernel
theorem dX5_go_1 : decode cX5_go 1 = .ok (.getfield 60, 3) := by decide +kernel
theorem dX5_go_4 : decode cX5_go 4 = .ok (.ifCond .ne 7, 3) := by decide +kernel
theorem dX5_go_7 : decode cX5_go 7 = .ok (.sipush (-1004), 3) := by decide +kernel
theorem dX5_go_10 : decode cX5_go 10 = .ok (.ireturn, 1) := by decide +kernel
theorem dX5_go_11 : decode cX5_go 11 = .ok (.aload_n 0, 1) := by decide +kernel
theorem dX5_go_12 : decode cX5_go 12 = .ok (.iload_n 1, 1) := by decide +kernel
theorem dX5_go_13 : decode cX5_go 13 = .ok (.invokevirtual 162, 3) := by decide +kernel
theorem dX5_go_16 : decode cX5_go 16 = .ok (.aload_n 0, 1) := by decide +kernel
theorem dX5_go_17 : decode cX5_go 17 = .ok (.getfield 153, 3) := by decide +kernel
theorem dX5_go_20 : decode cX5_go 20 = .ok (.iconst 1, 1) := by decide +kernel
theorem dX5_go_21 : decode cX5_go 21 = .ok (.if_icmp .ge 7, 3) := by decide +kernel
theorem dX5_go_24 : decode cX5_go 24 = .ok (.sipush (-1004), 3) := by decide +kernel
theorem dX5_go_27 : decode cX5_go 27 = .ok (.ireturn, 1) := by decide +kernel
theorem dX5_go_28 : decode cX5_go 28 = .ok (.aload_n 0, 1) := by decide +kernel
theorem dX5_go_29 : decode cX5_go 29 = .ok (.getfield 19, 3) := by decide +kernel
theorem dX5_go_32 : decode cX5_go 32 = .ok (.aload_n 0, 1) := by decide +kernel
theorem dX5_go_33 : decode cX5_go 33 = .ok (.getfield 38, 3) := by decide +kernel
theorem dX5_go_36 : decode cX5_go 36 = .ok (.iconst 0, 1) := by decide +kernel
theorem dX5_go_37 : decode cX5_go 37 = .ok (.iaload, 1) := by decide +kernel
theorem dX5_go_38 : decode cX5_go 38 = .ok (.bipush 8, 2) := by decide +kernel
theorem dX5_go_40 : decode cX5_go 40 = .ok (.idiv, 1) := by decide +kernel
theorem dX5_go_41 : decode cX5_go 41 = .ok (.aload_n 0, 1) := by decide +kernel
theorem dX5_go_42 : decode cX5_go 42 = .ok (.getfield 38, 3) := by decide +kernel
theorem dX5_go_45 : decode cX5_go 45 = .ok (.iconst 0, 1) := by decide +kernel
theorem dX5_go_46 : decode cX5_go 46 = .ok (.iaload, 1) := by decide +kernel
theorem dX5_go_47 : decode cX5_go 47 = .ok (.bipush 8, 2) := by decide +kernel
theorem dX5_go_49 : decode cX5_go 49 = .ok (.irem, 1) := by decide +kernel
theorem dX5_go_50 : decode cX5_go 50 = .ok (.iconst 1, 1) := by decide +kernel
theorem dX5_go_51 : decode cX5_go 51 = .ok (.isub, 1) := by decide +kernel
theorem dX5_go_52 : decode cX5_go 52 = .ok (.iastore, 1) := by decide +kernel
theorem dX5_go_53 : decode cX5_go 53 = .ok (.aload_n 0, 1) := by decide +kernel
theorem dX5_go_54 : decode cX5_go 54 = .ok (.dup, 1) := by decide +kernel
theorem dX5_go_55 : decode cX5_go 55 = .ok (.getfield 97, 3) := by decide +kernel
theorem dX5_go_58 : decode cX5_go 58 = .ok (.iconst 1, 1) := by decide +kernel
theorem dX5_go_59 : decode cX5_go 59 = .ok (.iadd, 1) := by decide +kernel
theorem dX5_go_60 : decode cX5_go 60 = .ok (.putfield 97, 3) := by decide +kernel
theorem dX5_go_63 : decode cX5_go 63 = .ok (.aload_n 0, 1) := by decide +kernel
theorem dX5_go_64 : decode cX5_go 64 = .ok (.getfield 153, 3) := by decide +kernel
theorem dX5_go_67 : decode cX5_go 67 = .ok (.iconst 1, 1) := by decide +kernel
theorem dX5_go_68 : decode cX5_go 68 = .ok (.isub, 1) := by decide +kernel
theorem dX5_go_69 : decode cX5_go 69 = .ok (.ireturn, 1) := by decide +kernel
theorem dX5_layTrade_0 : decode cX5_layTrade 0 = .ok (.aload_n 0, 1) := by decide +kernel
theorem dX5_layTrade_1 : decode cX5_layTrade 1 = .ok (.invokevirtual 90, 3) := by decide +kernel
theorem dX5_layTrade_4 : decode cX5_layTrade 4 = .ok (.aload_n 0, 1) := by decide +kernel
theorem dX5_layTrade_5 : decode cX5_layTrade 5 = .ok (.invokevirtual 128, 3) := by decide +kernel
theorem dX5_layTrade_8 : decode cX5_layTrade 8 = .ok (.istore_n 1, 1) := by decide +kernel
theorem dX5_layTrade_9 : decode cX5_layTrade 9 = .ok (.aload_n 0, 1) := by decide +kernel
theorem dX5_layTrade_10 : decode cX5_layTrade 10 = .ok (.sipush (-1001), 3) := by decide +kernel
theorem dX5_layTrade_13 : decode cX5_layTrade 13 = .ok (.putfield 168, 3) := by decide +kernel
theorem dX5_layTrade_16 : decode cX5_layTrade 16 = .ok (.aload_n 0, 1) := by decide +kernel
theorem dX5_layTrade_17 : decode cX5_layTrade 17 = .ok (.sipush (-1001), 3) := by decide +kernel
theorem dX5_layTrade_20 : decode cX5_layTrade 20 = .ok (.putfield 171, 3) := by decide +kernel
theorem dX5_layTrade_23 : decode cX5_layTrade 23 = .ok (.aload_n 0, 1) := by decide +kernel
theorem dX5_layTrade_24 : decode cX5_layTrade 24 = .ok (.sipush (-1001), 3) := by decide +kernel
theorem dX5_layTrade_27 : decode cX5_layTrade 27 = .ok (.putfield 174, 3) := by decide +kernel
theorem dX5_layTrade_30 : decode cX5_layTrade 30 = .ok (.iconst 0, 1) := by decide +kernel
theorem dX5_layTrade_31 : decode cX5_layTrade 31 = .ok (.istore_n 2, 1) := by decide +kernel
theorem dX5_layTrade_32 : decode cX5_layTrade 32 = .ok (.iload_n 2, 1) := by decide +kernel
theorem dX5_layTrade_33 : decode cX5_layTrade 33 = .ok (.bipush 25, 2) := by decide +kernel
theorem dX5_layTrade_35 : decode cX5_layTrade 35 = .ok (.if_icmp .ge 171, 3) := by decide +kernel
theorem dX5_layTrade_38 : decode cX5_layTrade 38 = .ok (.iload_n 2, 1) := by decide +kernel
theorem dX5_layTrade_39 : decode cX5_layTrade 39 = .ok (.iconst 5, 1) := by decide +kernel
theorem dX5_layTrade_40 : decode cX5_layTrade 40 = .ok (.idiv, 1) := by decide +kernel
theorem dX5_layTrade_41 : decode cX5_layTrade 41 = .ok (.istore_n 3, 1) := by decide +kernel
theorem dX5_layTrade_42 : decode cX5_layTrade 42 = .ok (.iload_n 2, 1) := by decide +kernel
theorem dX5_layTrade_43 : decode cX5_layTrade 43 = .ok (.iconst 5, 1) := by decide +kernel
theorem dX5_layTrade_44 : decode cX5_layTrade 44 = .ok (.irem, 1) := by decide +kernel
theorem dX5_layTrade_45 : decode cX5_layTrade 45 = .ok (.istore 4, 2) := by decide +kernel
theorem dX5_layTrade_47 : decode cX5_layTrade 47 = .ok (.aload_n 0, 1) := by decide +kernel
theorem dX5_layTrade_48 : decode cX5_layTrade 48 = .ok (.invokevirtual 90, 3) := by decide +kernel
theorem dX5_layTrade_51 : decode cX5_layTrade 51 = .ok (.aload_n 0, 1) := by decide +kernel
theorem dX5_layTrade_52 : decode cX5_layTrade 52 = .ok (.getfield 25, 3) := by decide +kernel
theorem dX5_layTrade_55 : decode cX5_layTrade 55 = .ok (.iload_n 3, 1) := by decide +kernel
theorem dX5_layTrade_56 : decode cX5_layTrade 56 = .ok (.aload_n 0, 1) := by decide +kernel
theorem dX5_layTrade_57 : decode cX5_layTrade 57 = .ok (.getfield 19, 3) := by decide +kernel
theorem dX5_layTrade_60 : decode cX5_layTrade 60 = .ok (.iload 4, 2) := by decide +kernel
theorem dX5_layTrade_62 : decode cX5_layTrade 62 = .ok (.iaload, 1) := by decide +kernel
theorem dX5_layTrade_63 : decode cX5_layTrade 63 = .ok (.iastore, 1) := by decide +kernel
theorem dX5_layTrade_64 : decode cX5_layTrade 64 = .ok (.aload_n 0, 1) := by decide +kernel
theorem dX5_layTrade_65 : decode cX5_layTrade 65 = .ok (.getfield 25, 3) := by decide +kernel
theorem dX5_layTrade_68 : decode cX5_layTrade 68 = .ok (.iload 4, 2) := by decide +kernel
theorem dX5_layTrade_70 : decode cX5_layTrade 70 = .ok (.aload_n 0, 1) := by decide +kernel
theorem dX5_layTrade_71 : decode cX5_layTrade 71 = .ok (.getfield 19, 3) := by decide +kernel
theorem dX5_layTrade_74 : decode cX5_layTrade 74 = .ok (.iload_n 3, 1) := by decide +kernel
theorem dX5_layTrade_75 : decode cX5_layTrade 75 = .ok (.iaload, 1) := by decide +kernel
theorem dX5_layTrade_76 : decode cX5_layTrade 76 = .ok (.iastore, 1) := by decide +kernel
theorem dX5_layTrade_77 : decode cX5_layTrade 77 = .ok (.iload_n 3, 1) := by decide +kernel
theorem dX5_layTrade_78 : decode cX5_layTrade 78 = .ok (.iload 4, 2) := by decide +kernel
theorem dX5_layTrade_80 : decode cX5_layTrade 80 = .ok (.if_icmp .ge 63, 3) := by decide +kernel
theorem dX5_layTrade_83 : decode cX5_layTrade 83 = .ok (.aload_n 0, 1) := by decide +kernel
theorem dX5_layTrade_84 : decode cX5_layTrade 84 = .ok (.iload 4, 2) := by decide +kernel
theorem dX5_layTrade_86 : decode cX5_layTrade 86 = .ok (.invokevirtual 87, 3) := by decide +kernel
theorem dX5_layTrade_89 : decode cX5_layTrade 89 = .ok (.ifCond .eq 54, 3) := by decide +kernel
theorem dX5_layTrade_92 : decode cX5_layTrade 92 = .ok (.aload_n 0, 1) := by decide +kernel
theorem dX5_layTrade_93 : decode cX5_layTrade 93 = .ok (.getfield 19, 3) := by decide +kernel
theorem dX5_layTrade_96 : decode cX5_layTrade 96 = .ok (.iload_n 3, 1) := by decide +kernel
theorem dX5_layTrade_97 : decode cX5_layTrade 97 = .ok (.iaload, 1) := by decide +kernel
theorem dX5_layTrade_98 : decode cX5_layTrade 98 = .ok (.aload_n 0, 1) := by decide +kernel
theorem dX5_layTrade_99 : decode cX5_layTrade 99 = .ok (.getfield 19, 3) := by decide +kernel
theorem dX5_layTrade_102 : decode cX5_layTrade 102 = .ok (.iload 4, 2) := by decide +kernel
theorem dX5_layTrade_104 : decode cX5_layTrade 104 = .ok (.iaload, 1) := by decide +kernel
theorem dX5_layTrade_105 : decode cX5_layTrade 105 = .ok (.if_icmp .eq 38, 3) := by decide +kernel
theorem dX5_layTrade_108 : decode cX5_layTrade 108 = .ok (.aload_n 0, 1) := by decide +kernel
theorem dX5_layTrade_109 : decode cX5_layTrade 109 = .ok (.getfield 66, 3) := by decide +kernel
theorem dX5_layTrade_112 : decode cX5_layTrade 112 = .ok (.iload_n 3, 1) := by decide +kernel
theorem dX5_layTrade_113 : decode cX5_layTrade 113 = .ok (.invokestatic 76, 3) := by decide +kernel
theorem dX5_layTrade_116 : decode cX5_layTrade 116 = .ok (.ifCond .ne 27, 3) := by decide +kernel
theorem dX5_layTrade_119 : decode cX5_layTrade 119 = .ok (.aload_n 0, 1) := by decide +kernel
theorem dX5_layTrade_120 : decode cX5_layTrade 120 = .ok (.getfield 66, 3) := by decide +kernel
theorem dX5_layTrade_123 : decode cX5_layTrade 123 = .ok (.iload 4, 2) := by decide +kernel
theorem dX5_layTrade_125 : decode cX5_layTrade 125 = .ok (.invokestatic 76, 3) := by decide +kernel
theorem dX5_layTrade_128 : decode cX5_layTrade 128 = .ok (.ifCond .ne 15, 3) := by decide +kernel
theorem dX5_layTrade_131 : decode cX5_layTrade 131 = .ok (.aload_n 0, 1) := by decide +kernel
theorem dX5_layTrade_132 : decode cX5_layTrade 132 = .ok (.iconst 0, 1) := by decide +kernel
theorem dX5_layTrade_133 : decode cX5_layTrade 133 = .ok (.invokevirtual 93, 3) := by decide +kernel
theorem dX5_layTrade_136 : decode cX5_layTrade 136 = .ok (.ifCond .eq 7, 3) := by decide +kernel
theorem dX5_layTrade_139 : decode cX5_layTrade 139 = .ok (.iconst 1, 1) := by decide +kernel
theorem dX5_layTrade_140 : decode cX5_layTrade 140 = .ok (.goto 4, 3) := by decide +kernel
theorem dX5_layTrade_143 : decode cX5_layTrade 143 = .ok (.iconst 0, 1) := by decide +kernel
theorem dX5_layTrade_144 : decode cX5_layTrade 144 = .ok (.istore 5, 2) := by decide +kernel
theorem dX5_layTrade_146 : decode cX5_layTrade 146 = .ok (.aload_n 0, 1) := by decide +kernel
theorem dX5_layTrade_147 : decode cX5_layTrade 147 = .ok (.invokevirtual 128, 3) := by decide +kernel
theorem dX5_layTrade_150 : decode cX5_layTrade 150 = .ok (.iload_n 1, 1) := by decide +kernel
theorem dX5_layTrade_151 : decode cX5_layTrade 151 = .ok (.isub, 1) := by decide +kernel
theorem dX5_layTrade_152 : decode cX5_layTrade 152 = .ok (.istore 6, 2) := by decide +kernel
theorem dX5_layTrade_154 : decode cX5_layTrade 154 = .ok (.iload 5, 2) := by decide +kernel
theorem dX5_layTrade_156 : decode cX5_layTrade 156 = .ok (.ifCond .eq 44, 3) := by decide +kernel
theorem dX5_layTrade_159 : decode cX5_layTrade 159 = .ok (.iload 6, 2) := by decide +kernel
theorem dX5_layTrade_161 : decode cX5_layTrade 161 = .ok (.ifCond .le 39, 3) := by decide +kernel
theorem dX5_layTrade_164 : decode cX5_layTrade 164 = .ok (.aload_n 0, 1) := by decide +kernel
theorem dX5_layTrade_165 : decode cX5_layTrade 165 = .ok (.getfield 168, 3) := by decide +kernel
theorem dX5_layTrade_168 : decode cX5_layTrade 168 = .ok (.sipush (-1001), 3) := by decide +kernel
theorem dX5_layTrade_171 : decode cX5_layTrade 171 = .ok (.if_icmp .eq 12, 3) := by decide +kernel
theorem dX5_layTrade_174 : decode cX5_layTrade 174 = .ok (.iload 6, 2) := by decide +kernel
theorem dX5_layTrade_176 : decode cX5_layTrade 176 = .ok (.aload_n 0, 1) := by decide +kernel
theorem dX5_layTrade_177 : decode cX5_layTrade 177 = .ok (.getfield 168, 3) := by decide +kernel
theorem dX5_layTrade_180 : decode cX5_layTrade 180 = .ok (.if_icmp .le 20, 3) := by decide +kernel
theorem dX5_layTrade_183 : decode cX5_layTrade 183 = .ok (.aload_n 0, 1) := by decide +kernel
theorem dX5_layTrade_184 : decode cX5_layTrade 184 = .ok (.iload 6, 2) := by decide +kernel
theorem dX5_layTrade_186 : decode cX5_layTrade 186 = .ok (.putfield 168, 3) := by decide +kernel
theorem dX5_layTrade_189 : decode cX5_layTrade 189 = .ok (.aload_n 0, 1) := by decide +kernel
theorem dX5_layTrade_190 : decode cX5_layTrade 190 = .ok (.iload_n 3, 1) := by decide +kernel
theorem dX5_layTrade_191 : decode cX5_layTrade 191 = .ok (.putfield 171, 3) := by decide +kernel
theorem dX5_layTrade_194 : decode cX5_layTrade 194 = .ok (.aload_n 0, 1) := by decide +kernel
theorem dX5_layTrade_195 : decode cX5_layTrade 195 = .ok (.iload 4, 2) := by decide +kernel
theorem dX5_layTrade_197 : decode cX5_layTrade 197 = .ok (.putfield 174, 3) := by decide +kernel
theorem dX5_layTrade_200 : decode cX5_layTrade 200 = .ok (.iinc 2 1, 3) := by decide +kernel
theorem dX5_layTrade_203 : decode cX5_layTrade 203 = .ok (.goto (-171), 3) := by decide +kernel
theorem dX5_layTrade_206 : decode cX5_layTrade 206 = .ok (.return_, 1) := by decide +kernel
theorem dX5_tradeNow_0 : decode cX5_tradeNow 0 = .ok (.iload_n 1, 1) := by decide +kernel
theorem dX5_tradeNow_1 : decode cX5_tradeNow 1 = .ok (.ifCond .ne 10, 3) := by decide +kernel
theorem dX5_tradeNow_4 : decode cX5_tradeNow 4 = .ok (.aload_n 0, 1) := by decide +kernel
theorem dX5_tradeNow_5 : decode cX5_tradeNow 5 = .ok (.getfield 168, 3) := by decide +kernel
theorem dX5_tradeNow_8 : decode cX5_tradeNow 8 = .ok (.goto 19, 3) := by decide +kernel
theorem dX5_tradeNow_11 : decode cX5_tradeNow 11 = .ok (.iload_n 1, 1) := by decide +kernel
theorem dX5_tradeNow_12 : decode cX5_tradeNow 12 = .ok (.iconst 1, 1) := by decide +kernel
theorem dX5_tradeNow_13 : decode cX5_tradeNow 13 = .ok (.if_icmp .ne 10, 3) := by decide +kernel
theorem dX5_tradeNow_16 : decode cX5_tradeNow 16 = .ok (.aload_n 0, 1) := by decide +kernel
theorem dX5_tradeNow_17 : decode cX5_tradeNow 17 = .ok (.getfield 171, 3) := by decide +kernel
theorem dX5_tradeNow_20 : decode cX5_tradeNow 20 = .ok (.goto 7, 3) := by decide +kernel
theorem dX5_tradeNow_23 : decode cX5_tradeNow 23 = .ok (.aload_n 0, 1) := by decide +kernel
theorem dX5_tradeNow_24 : decode cX5_tradeNow 24 = .ok (.getfield 174, 3) := by decide +kernel
theorem dX5_tradeNow_27 : decode cX5_tradeNow 27 = .ok (.ireturn, 1) := by decide +kernel
theorem dX5_trade_0 : decode cX5_trade 0 = .ok (.aload_n 0, 1) := by decide +kernel
theorem dX5_trade_1 : decode cX5_trade 1 = .ok (.getfield 60, 3) := by decide +kernel
theorem dX5_trade_4 : decode cX5_trade 4 = .ok (.ifCond .ne 7, 3) := by decide +kernel
theorem dX5_trade_7 : decode cX5_trade 7 = .ok (.sipush (-1004), 3) := by decide +kernel
theorem dX5_trade_10 : decode cX5_trade 10 = .ok (.ireturn, 1) := by decide +kernel
theorem dX5_trade_11 : decode cX5_trade 11 = .ok (.iload_n 1, 1) := by decide +kernel
theorem dX5_trade_12 : decode cX5_trade 12 = .ok (.iconst 0, 1) := by decide +kernel
theorem dX5_trade_13 : decode cX5_trade 13 = .ok (.iconst 2, 1) := by decide +kernel
theorem dX5_trade_14 : decode cX5_trade 14 = .ok (.invokestatic 41, 3) := by decide +kernel
theorem dX5_trade_17 : decode cX5_trade 17 = .ok (.ifCond .ne 7, 3) := by decide +kernel
theorem dX5_trade_20 : decode cX5_trade 20 = .ok (.sipush (-1003), 3) := by decide +kernel
theorem dX5_trade_23 : decode cX5_trade 23 = .ok (.ireturn, 1) := by decide +kernel
theorem dX5_trade_24 : decode cX5_trade 24 = .ok (.aload_n 0, 1) := by decide +kernel
theorem dX5_trade_25 : decode cX5_trade 25 = .ok (.invokevirtual 177, 3) := by decide +kernel
theorem dX5_trade_28 : decode cX5_trade 28 = .ok (.aload_n 0, 1) := by decide +kernel
theorem dX5_trade_29 : decode cX5_trade 29 = .ok (.iload_n 1, 1) := by decide +kernel
theorem dX5_trade_30 : decode cX5_trade 30 = .ok (.invokevirtual 180, 3) := by decide +kernel
theorem dX5_trade_33 : decode cX5_trade 33 = .ok (.ireturn, 1) := by decide +kernel
