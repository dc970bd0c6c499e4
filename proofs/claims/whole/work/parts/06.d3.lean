theorem dX10_wide_46 : decode cX10_wide 46 = .ok (.if_icmp .ne 10, 3) := by decide +kernel
theorem dX10_wide_49 : decode cX10_wide 49 = .ok (.aload_n 0, 1) := by decide +kernel
theorem dX10_wide_50 : decode cX10_wide 50 = .ok (.getfield 342, 3) := by decide +kernel
theorem dX10_wide_53 : decode cX10_wide 53 = .ok (.goto 7, 3) := by decide +kernel
theorem dX10_wide_56 : decode cX10_wide 56 = .ok (.aload_n 0, 1) := by decide +kernel
theorem dX10_wide_57 : decode cX10_wide 57 = .ok (.getfield 345, 3) := by decide +kernel
theorem dX10_wide_60 : decode cX10_wide 60 = .ok (.ireturn, 1) := by decide +kernel
theorem dX10_odds_0 : decode cX10_odds 0 = .ok (.aload_n 0, 1) := by decide +kernel
theorem dX10_odds_1 : decode cX10_odds 1 = .ok (.iload_n 1, 1) := by decide +kernel
theorem dX10_odds_2 : decode cX10_odds 2 = .ok (.invokevirtual 204, 3) := by decide +kernel
theorem dX10_odds_5 : decode cX10_odds 5 = .ok (.ifCond .ne 6, 3) := by decide +kernel
theorem dX10_odds_8 : decode cX10_odds 8 = .ok (.ldc 197, 2) := by decide +kernel
theorem dX10_odds_10 : decode cX10_odds 10 = .ok (.ireturn, 1) := by decide +kernel
theorem dX10_odds_11 : decode cX10_odds 11 = .ok (.iload_n 2, 1) := by decide +kernel
theorem dX10_odds_12 : decode cX10_odds 12 = .ok (.invokestatic 327, 3) := by decide +kernel
theorem dX10_odds_15 : decode cX10_odds 15 = .ok (.ifCond .eq 15, 3) := by decide +kernel
theorem dX10_odds_18 : decode cX10_odds 18 = .ok (.iload_n 3, 1) := by decide +kernel
theorem dX10_odds_19 : decode cX10_odds 19 = .ok (.i2l, 1) := by decide +kernel
theorem dX10_odds_20 : decode cX10_odds 20 = .ok (.lconst 0, 1) := by decide +kernel
theorem dX10_odds_21 : decode cX10_odds 21 = .ok (.ldc2_w 353, 3) := by decide +kernel
theorem dX10_odds_24 : decode cX10_odds 24 = .ok (.invokestatic 81, 3) := by decide +kernel
theorem dX10_odds_27 : decode cX10_odds 27 = .ok (.ifCond .ne 6, 3) := by decide +kernel
theorem dX10_odds_30 : decode cX10_odds 30 = .ok (.ldc 87, 2) := by decide +kernel
theorem dX10_odds_32 : decode cX10_odds 32 = .ok (.ireturn, 1) := by decide +kernel
theorem dX10_odds_33 : decode cX10_odds 33 = .ok (.aload_n 0, 1) := by decide +kernel
theorem dX10_odds_34 : decode cX10_odds 34 = .ok (.iload_n 1, 1) := by decide +kernel
theorem dX10_odds_35 : decode cX10_odds 35 = .ok (.invokevirtual 330, 3) := by decide +kernel
theorem dX10_odds_38 : decode cX10_odds 38 = .ok (.iconst 0, 1) := by decide +kernel
theorem dX10_odds_39 : decode cX10_odds 39 = .ok (.istore 4, 2) := by decide +kernel
theorem dX10_odds_41 : decode cX10_odds 41 = .ok (.iconst 0, 1) := by decide +kernel
theorem dX10_odds_42 : decode cX10_odds 42 = .ok (.istore 5, 2) := by decide +kernel
theorem dX10_odds_44 : decode cX10_odds 44 = .ok (.iload 5, 2) := by decide +kernel
theorem dX10_odds_46 : decode cX10_odds 46 = .ok (.iload_n 3, 1) := by decide +kernel
theorem dX10_odds_47 : decode cX10_odds 47 = .ok (.if_icmp .gt 37, 3) := by decide +kernel
theorem dX10_odds_50 : decode cX10_odds 50 = .ok (.iload 4, 2) := by decide +kernel
theorem dX10_odds_52 : decode cX10_odds 52 = .ok (.aload_n 0, 1) := by decide +kernel
theorem dX10_odds_53 : decode cX10_odds 53 = .ok (.iload_n 2, 1) := by decide +kernel
theorem dX10_odds_54 : decode cX10_odds 54 = .ok (.invokevirtual 336, 3) := by decide +kernel
theorem dX10_odds_57 : decode cX10_odds 57 = .ok (.ifCond .eq 7, 3) := by decide +kernel
theorem dX10_odds_60 : decode cX10_odds 60 = .ok (.iconst 1, 1) := by decide +kernel
theorem dX10_odds_61 : decode cX10_odds 61 = .ok (.goto 4, 3) := by decide +kernel
theorem dX10_odds_64 : decode cX10_odds 64 = .ok (.iconst 0, 1) := by decide +kernel
theorem dX10_odds_65 : decode cX10_odds 65 = .ok (.iadd, 1) := by decide +kernel
theorem dX10_odds_66 : decode cX10_odds 66 = .ok (.istore 4, 2) := by decide +kernel
theorem dX10_odds_68 : decode cX10_odds 68 = .ok (.aload_n 0, 1) := by decide +kernel
theorem dX10_odds_69 : decode cX10_odds 69 = .ok (.dup, 1) := by decide +kernel
theorem dX10_odds_70 : decode cX10_odds 70 = .ok (.getfield 248, 3) := by decide +kernel
theorem dX10_odds_73 : decode cX10_odds 73 = .ok (.iconst 1, 1) := by decide +kernel
theorem dX10_odds_74 : decode cX10_odds 74 = .ok (.iadd, 1) := by decide +kernel
theorem dX10_odds_75 : decode cX10_odds 75 = .ok (.putfield 248, 3) := by decide +kernel
theorem dX10_odds_78 : decode cX10_odds 78 = .ok (.iinc 5 1, 3) := by decide +kernel
theorem dX10_odds_81 : decode cX10_odds 81 = .ok (.goto (-37), 3) := by decide +kernel
theorem dX10_odds_84 : decode cX10_odds 84 = .ok (.ldc2_w 355, 3) := by decide +kernel
theorem dX10_odds_87 : decode cX10_odds 87 = .ok (.iload 4, 2) := by decide +kernel
theorem dX10_odds_89 : decode cX10_odds 89 = .ok (.i2l, 1) := by decide +kernel
theorem dX10_odds_90 : decode cX10_odds 90 = .ok (.lmul, 1) := by decide +kernel
theorem dX10_odds_91 : decode cX10_odds 91 = .ok (.iload_n 3, 1) := by decide +kernel
theorem dX10_odds_92 : decode cX10_odds 92 = .ok (.iconst 1, 1) := by decide +kernel
theorem dX10_odds_93 : decode cX10_odds 93 = .ok (.iadd, 1) := by decide +kernel
theorem dX10_odds_94 : decode cX10_odds 94 = .ok (.i2l, 1) := by decide +kernel
theorem dX10_odds_95 : decode cX10_odds 95 = .ok (.ldiv, 1) := by decide +kernel
theorem dX10_odds_96 : decode cX10_odds 96 = .ok (.l2i, 1) := by decide +kernel
theorem dX10_odds_97 : decode cX10_odds 97 = .ok (.ireturn, 1) := by decide +kernel
theorem dX10_strong_0 : decode cX10_strong 0 = .ok (.aload_n 0, 1) := by decide +kernel
theorem dX10_strong_1 : decode cX10_strong 1 = .ok (.iload_n 1, 1) := by decide +kernel
theorem dX10_strong_2 : decode cX10_strong 2 = .ok (.invokevirtual 204, 3) := by decide +kernel
theorem dX10_strong_5 : decode cX10_strong 5 = .ok (.ifCond .ne 6, 3) := by decide +kernel
theorem dX10_strong_8 : decode cX10_strong 8 = .ok (.ldc 197, 2) := by decide +kernel
theorem dX10_strong_10 : decode cX10_strong 10 = .ok (.ireturn, 1) := by decide +kernel
theorem dX10_strong_11 : decode cX10_strong 11 = .ok (.iload_n 2, 1) := by decide +kernel
theorem dX10_strong_12 : decode cX10_strong 12 = .ok (.invokestatic 327, 3) := by decide +kernel
theorem dX10_strong_15 : decode cX10_strong 15 = .ok (.ifCond .ne 6, 3) := by decide +kernel
theorem dX10_strong_18 : decode cX10_strong 18 = .ok (.ldc 87, 2) := by decide +kernel
theorem dX10_strong_20 : decode cX10_strong 20 = .ok (.ireturn, 1) := by decide +kernel
theorem dX10_strong_21 : decode cX10_strong 21 = .ok (.aload_n 0, 1) := by decide +kernel
theorem dX10_strong_22 : decode cX10_strong 22 = .ok (.iload_n 1, 1) := by decide +kernel
theorem dX10_strong_23 : decode cX10_strong 23 = .ok (.invokevirtual 330, 3) := by decide +kernel
theorem dX10_strong_26 : decode cX10_strong 26 = .ok (.bipush 10, 2) := by decide +kernel
theorem dX10_strong_28 : decode cX10_strong 28 = .ok (.istore_n 3, 1) := by decide +kernel
theorem dX10_strong_29 : decode cX10_strong 29 = .ok (.iload_n 3, 1) := by decide +kernel
theorem dX10_strong_30 : decode cX10_strong 30 = .ok (.sipush 300, 3) := by decide +kernel
theorem dX10_strong_33 : decode cX10_strong 33 = .ok (.if_icmp .gt 58, 3) := by decide +kernel
theorem dX10_strong_36 : decode cX10_strong 36 = .ok (.sipush 1000, 3) := by decide +kernel
theorem dX10_strong_39 : decode cX10_strong 39 = .ok (.istore 4, 2) := by decide +kernel
theorem dX10_strong_41 : decode cX10_strong 41 = .ok (.iconst 1, 1) := by decide +kernel
theorem dX10_strong_42 : decode cX10_strong 42 = .ok (.istore 5, 2) := by decide +kernel
theorem dX10_strong_44 : decode cX10_strong 44 = .ok (.iload 5, 2) := by decide +kernel
theorem dX10_strong_46 : decode cX10_strong 46 = .ok (.iload_n 2, 1) := by decide +kernel
theorem dX10_strong_47 : decode cX10_strong 47 = .ok (.if_icmp .gt 31, 3) := by decide +kernel
theorem dX10_strong_50 : decode cX10_strong 50 = .ok (.iload 4, 2) := by decide +kernel
theorem dX10_strong_52 : decode cX10_strong 52 = .ok (.ifCond .lt 26, 3) := by decide +kernel
theorem dX10_strong_55 : decode cX10_strong 55 = .ok (.iload 4, 2) := by decide +kernel
theorem dX10_strong_57 : decode cX10_strong 57 = .ok (.aload_n 0, 1) := by decide +kernel
theorem dX10_strong_58 : decode cX10_strong 58 = .ok (.getfield 54, 3) := by decide +kernel
theorem dX10_strong_61 : decode cX10_strong 61 = .ok (.iload 5, 2) := by decide +kernel
theorem dX10_strong_63 : decode cX10_strong 63 = .ok (.iaload, 1) := by decide +kernel
theorem dX10_strong_64 : decode cX10_strong 64 = .ok (.bipush 20, 2) := by decide +kernel
theorem dX10_strong_66 : decode cX10_strong 66 = .ok (.imul, 1) := by decide +kernel
theorem dX10_strong_67 : decode cX10_strong 67 = .ok (.iload_n 3, 1) := by decide +kernel
theorem dX10_strong_68 : decode cX10_strong 68 = .ok (.idiv, 1) := by decide +kernel
theorem dX10_strong_69 : decode cX10_strong 69 = .ok (.isub, 1) := by decide +kernel
theorem dX10_strong_70 : decode cX10_strong 70 = .ok (.istore 4, 2) := by decide +kernel
theorem dX10_strong_72 : decode cX10_strong 72 = .ok (.iinc 5 1, 3) := by decide +kernel
theorem dX10_strong_75 : decode cX10_strong 75 = .ok (.goto (-31), 3) := by decide +kernel
theorem dX10_strong_78 : decode cX10_strong 78 = .ok (.iload 4, 2) := by decide +kernel
theorem dX10_strong_80 : decode cX10_strong 80 = .ok (.ifCond .lt 5, 3) := by decide +kernel
theorem dX10_strong_83 : decode cX10_strong 83 = .ok (.iload_n 3, 1) := by decide +kernel
theorem dX10_strong_84 : decode cX10_strong 84 = .ok (.ireturn, 1) := by decide +kernel
theorem dX10_strong_85 : decode cX10_strong 85 = .ok (.iinc 3 1, 3) := by decide +kernel
theorem dX10_strong_88 : decode cX10_strong 88 = .ok (.goto (-59), 3) := by decide +kernel
theorem dX10_strong_91 : decode cX10_strong 91 = .ok (.iconst (-1), 1) := by decide +kernel
theorem dX10_strong_92 : decode cX10_strong 92 = .ok (.ireturn, 1) := by decide +kernel
theorem dX10_heavy_0 : decode cX10_heavy 0 = .ok (.aload_n 0, 1) := by decide +kernel
theorem dX10_heavy_1 : decode cX10_heavy 1 = .ok (.invokevirtual 268, 3) := by decide +kernel
theorem dX10_heavy_4 : decode cX10_heavy 4 = .ok (.aload_n 0, 1) := by decide +kernel
theorem dX10_heavy_5 : decode cX10_heavy 5 = .ok (.bipush 10, 2) := by decide +kernel
theorem dX10_heavy_7 : decode cX10_heavy 7 = .ok (.putfield 239, 3) := by decide +kernel
theorem dX10_heavy_10 : decode cX10_heavy 10 = .ok (.aload_n 0, 1) := by decide +kernel
theorem dX10_heavy_11 : decode cX10_heavy 11 = .ok (.sipush 300, 3) := by decide +kernel
theorem dX10_heavy_14 : decode cX10_heavy 14 = .ok (.putfield 245, 3) := by decide +kernel
theorem dX10_heavy_17 : decode cX10_heavy 17 = .ok (.aload_n 0, 1) := by decide +kernel
theorem dX10_heavy_18 : decode cX10_heavy 18 = .ok (.invokevirtual 275, 3) := by decide +kernel
theorem dX10_heavy_21 : decode cX10_heavy 21 = .ok (.sipush 150, 3) := by decide +kernel
theorem dX10_heavy_24 : decode cX10_heavy 24 = .ok (.istore_n 1, 1) := by decide +kernel
theorem dX10_heavy_25 : decode cX10_heavy 25 = .ok (.iload_n 1, 1) := by decide +kernel
theorem dX10_heavy_26 : decode cX10_heavy 26 = .ok (.bipush 10, 2) := by decide +kernel
theorem dX10_heavy_28 : decode cX10_heavy 28 = .ok (.if_icmp .lt 66, 3) := by decide +kernel
theorem dX10_heavy_31 : decode cX10_heavy 31 = .ok (.iconst 1, 1) := by decide +kernel
theorem dX10_heavy_32 : decode cX10_heavy 32 = .ok (.istore_n 2, 1) := by decide +kernel
theorem dX10_heavy_33 : decode cX10_heavy 33 = .ok (.iconst 1, 1) := by decide +kernel
theorem dX10_heavy_34 : decode cX10_heavy 34 = .ok (.istore_n 3, 1) := by decide +kernel
theorem dX10_heavy_35 : decode cX10_heavy 35 = .ok (.iload_n 3, 1) := by decide +kernel
theorem dX10_heavy_36 : decode cX10_heavy 36 = .ok (.sipush 200, 3) := by decide +kernel
theorem dX10_heavy_39 : decode cX10_heavy 39 = .ok (.if_icmp .gt 43, 3) := by decide +kernel
theorem dX10_heavy_42 : decode cX10_heavy 42 = .ok (.iload_n 2, 1) := by decide +kernel
theorem dX10_heavy_43 : decode cX10_heavy 43 = .ok (.ifCond .eq 39, 3) := by decide +kernel
theorem dX10_heavy_46 : decode cX10_heavy 46 = .ok (.aload_n 0, 1) := by decide +kernel
theorem dX10_heavy_47 : decode cX10_heavy 47 = .ok (.iload_n 1, 1) := by decide +kernel
theorem dX10_heavy_48 : decode cX10_heavy 48 = .ok (.aload_n 0, 1) := by decide +kernel
theorem dX10_heavy_49 : decode cX10_heavy 49 = .ok (.getfield 48, 3) := by decide +kernel
theorem dX10_heavy_52 : decode cX10_heavy 52 = .ok (.iload_n 3, 1) := by decide +kernel
theorem dX10_heavy_53 : decode cX10_heavy 53 = .ok (.iaload, 1) := by decide +kernel
theorem dX10_heavy_54 : decode cX10_heavy 54 = .ok (.aload_n 0, 1) := by decide +kernel
theorem dX10_heavy_55 : decode cX10_heavy 55 = .ok (.getfield 51, 3) := by decide +kernel
theorem dX10_heavy_58 : decode cX10_heavy 58 = .ok (.iload_n 3, 1) := by decide +kernel
theorem dX10_heavy_59 : decode cX10_heavy 59 = .ok (.iaload, 1) := by decide +kernel
theorem dX10_heavy_60 : decode cX10_heavy 60 = .ok (.invokevirtual 261, 3) := by decide +kernel
theorem dX10_heavy_63 : decode cX10_heavy 63 = .ok (.aload_n 0, 1) := by decide +kernel
theorem dX10_heavy_64 : decode cX10_heavy 64 = .ok (.getfield 236, 3) := by decide +kernel
theorem dX10_heavy_67 : decode cX10_heavy 67 = .ok (.if_icmp .gt 7, 3) := by decide +kernel
theorem dX10_heavy_70 : decode cX10_heavy 70 = .ok (.iconst 1, 1) := by decide +kernel
theorem dX10_heavy_71 : decode cX10_heavy 71 = .ok (.goto 4, 3) := by decide +kernel
theorem dX10_heavy_74 : decode cX10_heavy 74 = .ok (.iconst 0, 1) := by decide +kernel
theorem dX10_heavy_75 : decode cX10_heavy 75 = .ok (.istore_n 2, 1) := by decide +kernel
theorem dX10_heavy_76 : decode cX10_heavy 76 = .ok (.iinc 3 1, 3) := by decide +kernel
theorem dX10_heavy_79 : decode cX10_heavy 79 = .ok (.goto (-44), 3) := by decide +kernel
theorem dX10_heavy_82 : decode cX10_heavy 82 = .ok (.iload_n 2, 1) := by decide +kernel
theorem dX10_heavy_83 : decode cX10_heavy 83 = .ok (.ifCond .eq 5, 3) := by decide +kernel
theorem dX10_heavy_86 : decode cX10_heavy 86 = .ok (.iload_n 1, 1) := by decide +kernel
theorem dX10_heavy_87 : decode cX10_heavy 87 = .ok (.ireturn, 1) := by decide +kernel
theorem dX10_heavy_88 : decode cX10_heavy 88 = .ok (.iinc 1 (-1), 3) := by decide +kernel
theorem dX10_heavy_91 : decode cX10_heavy 91 = .ok (.goto (-66), 3) := by decide +kernel
theorem dX10_heavy_94 : decode cX10_heavy 94 = .ok (.iconst (-1), 1) := by decide +kernel
theorem dX10_heavy_95 : decode cX10_heavy 95 = .ok (.ireturn, 1) := by decide +kernel
theorem dX10_hasGood_0 : decode cX10_hasGood 0 = .ok (.iconst 0, 1) := by decide +kernel
theorem dX10_hasGood_1 : decode cX10_hasGood 1 = .ok (.istore_n 1, 1) := by decide +kernel
theorem dX10_hasGood_2 : decode cX10_hasGood 2 = .ok (.iconst 1, 1) := by decide +kernel
theorem dX10_hasGood_3 : decode cX10_hasGood 3 = .ok (.istore_n 2, 1) := by decide +kernel
theorem dX10_hasGood_4 : decode cX10_hasGood 4 = .ok (.iload_n 2, 1) := by decide +kernel
theorem dX10_hasGood_5 : decode cX10_hasGood 5 = .ok (.sipush 200, 3) := by decide +kernel
theorem dX10_hasGood_8 : decode cX10_hasGood 8 = .ok (.if_icmp .gt 19, 3) := by decide +kernel
theorem dX10_hasGood_11 : decode cX10_hasGood 11 = .ok (.iload_n 1, 1) := by decide +kernel
theorem dX10_hasGood_12 : decode cX10_hasGood 12 = .ok (.ifCond .ne 15, 3) := by decide +kernel
theorem dX10_hasGood_15 : decode cX10_hasGood 15 = .ok (.aload_n 0, 1) := by decide +kernel
theorem dX10_hasGood_16 : decode cX10_hasGood 16 = .ok (.iload_n 2, 1) := by decide +kernel
theorem dX10_hasGood_17 : decode cX10_hasGood 17 = .ok (.invokevirtual 336, 3) := by decide +kernel
theorem dX10_hasGood_20 : decode cX10_hasGood 20 = .ok (.istore_n 1, 1) := by decide +kernel
theorem dX10_hasGood_21 : decode cX10_hasGood 21 = .ok (.iinc 2 1, 3) := by decide +kernel
theorem dX10_hasGood_24 : decode cX10_hasGood 24 = .ok (.goto (-20), 3) := by decide +kernel
theorem dX10_hasGood_27 : decode cX10_hasGood 27 = .ok (.iload_n 1, 1) := by decide +kernel
theorem dX10_hasGood_28 : decode cX10_hasGood 28 = .ok (.ireturn, 1) := by decide +kernel
theorem dX10_may_0 : decode cX10_may 0 = .ok (.iconst 0, 1) := by decide +kernel
theorem dX10_may_1 : decode cX10_may 1 = .ok (.istore_n 1, 1) := by decide +kernel
theorem dX10_may_2 : decode cX10_may 2 = .ok (.iconst 0, 1) := by decide +kernel
theorem dX10_may_3 : decode cX10_may 3 = .ok (.istore_n 2, 1) := by decide +kernel
theorem dX10_may_4 : decode cX10_may 4 = .ok (.iload_n 2, 1) := by decide +kernel
theorem dX10_may_5 : decode cX10_may 5 = .ok (.aload_n 0, 1) := by decide +kernel
theorem dX10_may_6 : decode cX10_may 6 = .ok (.getfield 78, 3) := by decide +kernel
theorem dX10_may_9 : decode cX10_may 9 = .ok (.if_icmp .ge 31, 3) := by decide +kernel
theorem dX10_may_12 : decode cX10_may 12 = .ok (.aload_n 0, 1) := by decide +kernel
theorem dX10_may_13 : decode cX10_may 13 = .ok (.iload_n 2, 1) := by decide +kernel
theorem dX10_may_14 : decode cX10_may 14 = .ok (.invokevirtual 330, 3) := by decide +kernel
theorem dX10_may_17 : decode cX10_may 17 = .ok (.iload_n 1, 1) := by decide +kernel
theorem dX10_may_18 : decode cX10_may 18 = .ok (.aload_n 0, 1) := by decide +kernel
theorem dX10_may_19 : decode cX10_may 19 = .ok (.invokevirtual 357, 3) := by decide +kernel
theorem dX10_may_22 : decode cX10_may 22 = .ok (.ifCond .eq 9, 3) := by decide +kernel
theorem dX10_may_25 : decode cX10_may 25 = .ok (.iconst 1, 1) := by decide +kernel
theorem dX10_may_26 : decode cX10_may 26 = .ok (.iload_n 2, 1) := by decide +kernel
theorem dX10_may_27 : decode cX10_may 27 = .ok (.ishl, 1) := by decide +kernel
theorem dX10_may_28 : decode cX10_may 28 = .ok (.goto 4, 3) := by decide +kernel
theorem dX10_may_31 : decode cX10_may 31 = .ok (.iconst 0, 1) := by decide +kernel
theorem dX10_may_32 : decode cX10_may 32 = .ok (.ior, 1) := by decide +kernel
theorem dX10_may_33 : decode cX10_may 33 = .ok (.istore_n 1, 1) := by decide +kernel
theorem dX10_may_34 : decode cX10_may 34 = .ok (.iinc 2 1, 3) := by decide +kernel
theorem dX10_may_37 : decode cX10_may 37 = .ok (.goto (-33), 3) := by decide +kernel
theorem dX10_may_40 : decode cX10_may 40 = .ok (.iload_n 1, 1) := by decide +kernel
theorem dX10_may_41 : decode cX10_may 41 = .ok (.ireturn, 1) := by decide +kernel
theorem dX10_months_0 : decode cX10_months 0 = .ok (.aload_n 0, 1) := by decide +kernel
theorem dX10_months_1 : decode cX10_months 1 = .ok (.iload_n 1, 1) := by decide +kernel
theorem dX10_months_2 : decode cX10_months 2 = .ok (.invokevirtual 204, 3) := by decide +kernel
theorem dX10_months_5 : decode cX10_months 5 = .ok (.ifCond .ne 6, 3) := by decide +kernel
theorem dX10_months_8 : decode cX10_months 8 = .ok (.ldc 197, 2) := by decide +kernel
theorem dX10_months_10 : decode cX10_months 10 = .ok (.ireturn, 1) := by decide +kernel
theorem dX10_months_11 : decode cX10_months 11 = .ok (.aload_n 0, 1) := by decide +kernel
theorem dX10_months_12 : decode cX10_months 12 = .ok (.iload_n 1, 1) := by decide +kernel
theorem dX10_months_13 : decode cX10_months 13 = .ok (.invokevirtual 330, 3) := by decide +kernel
theorem dX10_months_16 : decode cX10_months 16 = .ok (.aload_n 0, 1) := by decide +kernel
theorem dX10_months_17 : decode cX10_months 17 = .ok (.getfield 26, 3) := by decide +kernel
theorem dX10_months_20 : decode cX10_months 20 = .ok (.iconst 0, 1) := by decide +kernel
theorem dX10_months_21 : decode cX10_months 21 = .ok (.iaload, 1) := by decide +kernel
theorem dX10_months_22 : decode cX10_months 22 = .ok (.istore_n 2, 1) := by decide +kernel
theorem dX10_months_23 : decode cX10_months 23 = .ok (.iconst 0, 1) := by decide +kernel
theorem dX10_months_24 : decode cX10_months 24 = .ok (.istore_n 3, 1) := by decide +kernel
theorem dX10_months_25 : decode cX10_months 25 = .ok (.iconst 0, 1) := by decide +kernel
theorem dX10_months_26 : decode cX10_months 26 = .ok (.istore 4, 2) := by decide +kernel
theorem dX10_months_28 : decode cX10_months 28 = .ok (.iload 4, 2) := by decide +kernel
theorem dX10_months_30 : decode cX10_months 30 = .ok (.bipush 12, 2) := by decide +kernel
theorem dX10_months_32 : decode cX10_months 32 = .ok (.if_icmp .ge 35, 3) := by decide +kernel
theorem dX10_months_35 : decode cX10_months 35 = .ok (.aload_n 0, 1) := by decide +kernel
theorem dX10_months_36 : decode cX10_months 36 = .ok (.getfield 26, 3) := by decide +kernel
theorem dX10_months_39 : decode cX10_months 39 = .ok (.iconst 0, 1) := by decide +kernel
theorem dX10_months_40 : decode cX10_months 40 = .ok (.iload 4, 2) := by decide +kernel
theorem dX10_months_42 : decode cX10_months 42 = .ok (.iastore, 1) := by decide +kernel
theorem dX10_months_43 : decode cX10_months 43 = .ok (.iload_n 3, 1) := by decide +kernel
theorem dX10_months_44 : decode cX10_months 44 = .ok (.aload_n 0, 1) := by decide +kernel
theorem dX10_months_45 : decode cX10_months 45 = .ok (.invokevirtual 357, 3) := by decide +kernel
theorem dX10_months_48 : decode cX10_months 48 = .ok (.ifCond .eq 10, 3) := by decide +kernel
theorem dX10_months_51 : decode cX10_months 51 = .ok (.iconst 1, 1) := by decide +kernel
theorem dX10_months_52 : decode cX10_months 52 = .ok (.iload 4, 2) := by decide +kernel
theorem dX10_months_54 : decode cX10_months 54 = .ok (.ishl, 1) := by decide +kernel
theorem dX10_months_55 : decode cX10_months 55 = .ok (.goto 4, 3) := by decide +kernel
theorem dX10_months_58 : decode cX10_months 58 = .ok (.iconst 0, 1) := by decide +kernel
theorem dX10_months_59 : decode cX10_months 59 = .ok (.ior, 1) := by decide +kernel
theorem dX10_months_60 : decode cX10_months 60 = .ok (.istore_n 3, 1) := by decide +kernel
theorem dX10_months_61 : decode cX10_months 61 = .ok (.iinc 4 1, 3) := by decide +kernel
theorem dX10_months_64 : decode cX10_months 64 = .ok (.goto (-36), 3) := by decide +kernel
theorem dX10_months_67 : decode cX10_months 67 = .ok (.aload_n 0, 1) := by decide +kernel
theorem dX10_months_68 : decode cX10_months 68 = .ok (.getfield 26, 3) := by decide +kernel
theorem dX10_months_71 : decode cX10_months 71 = .ok (.iconst 0, 1) := by decide +kernel
theorem dX10_months_72 : decode cX10_months 72 = .ok (.iload_n 2, 1) := by decide +kernel
theorem dX10_months_73 : decode cX10_months 73 = .ok (.iastore, 1) := by decide +kernel
theorem dX10_months_74 : decode cX10_months 74 = .ok (.iload_n 3, 1) := by decide +kernel
theorem dX10_months_75 : decode cX10_months 75 = .ok (.ireturn, 1) := by decide +kernel
theorem dX10_rope_0 : decode cX10_rope 0 = .ok (.aload_n 0, 1) := by decide +kernel
theorem dX10_rope_1 : decode cX10_rope 1 = .ok (.iload_n 1, 1) := by decide +kernel
theorem dX10_rope_2 : decode cX10_rope 2 = .ok (.invokevirtual 204, 3) := by decide +kernel
theorem dX10_rope_5 : decode cX10_rope 5 = .ok (.ifCond .ne 6, 3) := by decide +kernel
theorem dX10_rope_8 : decode cX10_rope 8 = .ok (.ldc 197, 2) := by decide +kernel
theorem dX10_rope_10 : decode cX10_rope 10 = .ok (.ireturn, 1) := by decide +kernel
theorem dX10_rope_11 : decode cX10_rope 11 = .ok (.iload_n 2, 1) := by decide +kernel
theorem dX10_rope_12 : decode cX10_rope 12 = .ok (.i2l, 1) := by decide +kernel
theorem dX10_rope_13 : decode cX10_rope 13 = .ok (.lconst 0, 1) := by decide +kernel
theorem dX10_rope_14 : decode cX10_rope 14 = .ok (.ldc2_w 348, 3) := by decide +kernel
theorem dX10_rope_17 : decode cX10_rope 17 = .ok (.invokestatic 81, 3) := by decide +kernel
theorem dX10_rope_20 : decode cX10_rope 20 = .ok (.ifCond .ne 6, 3) := by decide +kernel
theorem dX10_rope_23 : decode cX10_rope 23 = .ok (.ldc 87, 2) := by decide +kernel
theorem dX10_rope_25 : decode cX10_rope 25 = .ok (.ireturn, 1) := by decide +kernel
theorem dX10_rope_26 : decode cX10_rope 26 = .ok (.aload_n 0, 1) := by decide +kernel
theorem dX10_rope_27 : decode cX10_rope 27 = .ok (.invokevirtual 268, 3) := by decide +kernel
theorem dX10_rope_30 : decode cX10_rope 30 = .ok (.aload_n 0, 1) := by decide +kernel
theorem dX10_rope_31 : decode cX10_rope 31 = .ok (.iload_n 1, 1) := by decide +kernel
theorem dX10_rope_32 : decode cX10_rope 32 = .ok (.invokevirtual 271, 3) := by decide +kernel
theorem dX10_rope_35 : decode cX10_rope 35 = .ok (.iconst (-1), 1) := by decide +kernel
theorem dX10_rope_36 : decode cX10_rope 36 = .ok (.istore_n 3, 1) := by decide +kernel
theorem dX10_rope_37 : decode cX10_rope 37 = .ok (.iconst 0, 1) := by decide +kernel
theorem dX10_rope_38 : decode cX10_rope 38 = .ok (.istore 4, 2) := by decide +kernel
theorem dX10_rope_40 : decode cX10_rope 40 = .ok (.bipush 100, 2) := by decide +kernel
theorem dX10_rope_42 : decode cX10_rope 42 = .ok (.istore 5, 2) := by decide +kernel
theorem dX10_rope_44 : decode cX10_rope 44 = .ok (.iload 5, 2) := by decide +kernel
theorem dX10_rope_46 : decode cX10_rope 46 = .ok (.sipush 900, 3) := by decide +kernel
theorem dX10_rope_49 : decode cX10_rope 49 = .ok (.if_icmp .gt 90, 3) := by decide +kernel
theorem dX10_rope_52 : decode cX10_rope 52 = .ok (.iconst 0, 1) := by decide +kernel
theorem dX10_rope_53 : decode cX10_rope 53 = .ok (.istore 6, 2) := by decide +kernel
theorem dX10_rope_55 : decode cX10_rope 55 = .ok (.iload 6, 2) := by decide +kernel
theorem dX10_rope_57 : decode cX10_rope 57 = .ok (.sipush 300, 3) := by decide +kernel
theorem dX10_rope_60 : decode cX10_rope 60 = .ok (.if_icmp .gt 73, 3) := by decide +kernel
theorem dX10_rope_63 : decode cX10_rope 63 = .ok (.iload 5, 2) := by decide +kernel
theorem dX10_rope_65 : decode cX10_rope 65 = .ok (.iload 6, 2) := by decide +kernel
theorem dX10_rope_67 : decode cX10_rope 67 = .ok (.isub, 1) := by decide +kernel
theorem dX10_rope_68 : decode cX10_rope 68 = .ok (.bipush 50, 2) := by decide +kernel
theorem dX10_rope_70 : decode cX10_rope 70 = .ok (.if_icmp .lt 63, 3) := by decide +kernel
theorem dX10_rope_73 : decode cX10_rope 73 = .ok (.aload_n 0, 1) := by decide +kernel
theorem dX10_rope_74 : decode cX10_rope 74 = .ok (.iload 5, 2) := by decide +kernel
theorem dX10_rope_76 : decode cX10_rope 76 = .ok (.iload 6, 2) := by decide +kernel
theorem dX10_rope_78 : decode cX10_rope 78 = .ok (.isub, 1) := by decide +kernel
theorem dX10_rope_79 : decode cX10_rope 79 = .ok (.putfield 230, 3) := by decide +kernel
theorem dX10_rope_82 : decode cX10_rope 82 = .ok (.aload_n 0, 1) := by decide +kernel
theorem dX10_rope_83 : decode cX10_rope 83 = .ok (.invokevirtual 275, 3) := by decide +kernel
theorem dX10_rope_86 : decode cX10_rope 86 = .ok (.aload_n 0, 1) := by decide +kernel
theorem dX10_rope_87 : decode cX10_rope 87 = .ok (.invokevirtual 350, 3) := by decide +kernel
theorem dX10_rope_90 : decode cX10_rope 90 = .ok (.istore 7, 2) := by decide +kernel
theorem dX10_rope_92 : decode cX10_rope 92 = .ok (.iload 7, 2) := by decide +kernel
theorem dX10_rope_94 : decode cX10_rope 94 = .ok (.iload_n 3, 1) := by decide +kernel
theorem dX10_rope_95 : decode cX10_rope 95 = .ok (.if_icmp .le 15, 3) := by decide +kernel
theorem dX10_rope_98 : decode cX10_rope 98 = .ok (.sipush 1000, 3) := by decide +kernel
theorem dX10_rope_101 : decode cX10_rope 101 = .ok (.iload 5, 2) := by decide +kernel
theorem dX10_rope_103 : decode cX10_rope 103 = .ok (.imul, 1) := by decide +kernel
theorem dX10_rope_104 : decode cX10_rope 104 = .ok (.iload 6, 2) := by decide +kernel
theorem dX10_rope_106 : decode cX10_rope 106 = .ok (.iadd, 1) := by decide +kernel
theorem dX10_rope_107 : decode cX10_rope 107 = .ok (.goto 5, 3) := by decide +kernel
theorem dX10_rope_110 : decode cX10_rope 110 = .ok (.iload 4, 2) := by decide +kernel
theorem dX10_rope_112 : decode cX10_rope 112 = .ok (.istore 4, 2) := by decide +kernel
theorem dX10_rope_114 : decode cX10_rope 114 = .ok (.iload 7, 2) := by decide +kernel
theorem dX10_rope_116 : decode cX10_rope 116 = .ok (.iload_n 3, 1) := by decide +kernel
theorem dX10_rope_117 : decode cX10_rope 117 = .ok (.if_icmp .le 8, 3) := by decide +kernel
theorem dX10_rope_120 : decode cX10_rope 120 = .ok (.iload 7, 2) := by decide +kernel
theorem dX10_rope_122 : decode cX10_rope 122 = .ok (.goto 4, 3) := by decide +kernel
theorem dX10_rope_125 : decode cX10_rope 125 = .ok (.iload_n 3, 1) := by decide +kernel
theorem dX10_rope_126 : decode cX10_rope 126 = .ok (.istore_n 3, 1) := by decide +kernel
theorem dX10_rope_127 : decode cX10_rope 127 = .ok (.iinc 6 50, 3) := by decide +kernel
theorem dX10_rope_130 : decode cX10_rope 130 = .ok (.goto (-75), 3) := by decide +kernel
theorem dX10_rope_133 : decode cX10_rope 133 = .ok (.iinc 5 50, 3) := by decide +kernel
theorem dX10_rope_136 : decode cX10_rope 136 = .ok (.goto (-92), 3) := by decide +kernel
theorem dX10_rope_139 : decode cX10_rope 139 = .ok (.iload_n 2, 1) := by decide +kernel
theorem dX10_rope_140 : decode cX10_rope 140 = .ok (.ifCond .ne 12, 3) := by decide +kernel
theorem dX10_rope_143 : decode cX10_rope 143 = .ok (.iload 4, 2) := by decide +kernel
theorem dX10_rope_145 : decode cX10_rope 145 = .ok (.sipush 1000, 3) := by decide +kernel
theorem dX10_rope_148 : decode cX10_rope 148 = .ok (.idiv, 1) := by decide +kernel
theorem dX10_rope_149 : decode cX10_rope 149 = .ok (.goto 18, 3) := by decide +kernel
theorem dX10_rope_152 : decode cX10_rope 152 = .ok (.iload_n 2, 1) := by decide +kernel
theorem dX10_rope_153 : decode cX10_rope 153 = .ok (.iconst 1, 1) := by decide +kernel
theorem dX10_rope_154 : decode cX10_rope 154 = .ok (.if_icmp .ne 12, 3) := by decide +kernel
theorem dX10_rope_157 : decode cX10_rope 157 = .ok (.iload 4, 2) := by decide +kernel
theorem dX10_rope_159 : decode cX10_rope 159 = .ok (.sipush 1000, 3) := by decide +kernel
theorem dX10_rope_162 : decode cX10_rope 162 = .ok (.irem, 1) := by decide +kernel
theorem dX10_rope_163 : decode cX10_rope 163 = .ok (.goto 4, 3) := by decide +kernel
theorem dX10_rope_166 : decode cX10_rope 166 = .ok (.iload_n 3, 1) := by decide +kernel
theorem dX10_rope_167 : decode cX10_rope 167 = .ok (.ireturn, 1) := by decide +kernel
theorem dX10_turn_0 : decode cX10_turn 0 = .ok (.aload_n 0, 1) := by decide +kernel
theorem dX10_turn_1 : decode cX10_turn 1 = .ok (.iload_n 1, 1) := by decide +kernel
theorem dX10_turn_2 : decode cX10_turn 2 = .ok (.invokevirtual 204, 3) := by decide +kernel
theorem dX10_turn_5 : decode cX10_turn 5 = .ok (.ifCond .ne 6, 3) := by decide +kernel
theorem dX10_turn_8 : decode cX10_turn 8 = .ok (.ldc 197, 2) := by decide +kernel
theorem dX10_turn_10 : decode cX10_turn 10 = .ok (.ireturn, 1) := by decide +kernel
theorem dX10_turn_11 : decode cX10_turn 11 = .ok (.iload_n 2, 1) := by decide +kernel
theorem dX10_turn_12 : decode cX10_turn 12 = .ok (.invokestatic 327, 3) := by decide +kernel
theorem dX10_turn_15 : decode cX10_turn 15 = .ok (.ifCond .ne 6, 3) := by decide +kernel
theorem dX10_turn_18 : decode cX10_turn 18 = .ok (.ldc 87, 2) := by decide +kernel
theorem dX10_turn_20 : decode cX10_turn 20 = .ok (.ireturn, 1) := by decide +kernel
theorem dX10_turn_21 : decode cX10_turn 21 = .ok (.aload_n 0, 1) := by decide +kernel
theorem dX10_turn_22 : decode cX10_turn 22 = .ok (.iload_n 1, 1) := by decide +kernel
theorem dX10_turn_23 : decode cX10_turn 23 = .ok (.invokevirtual 330, 3) := by decide +kernel
theorem dX10_turn_26 : decode cX10_turn 26 = .ok (.iconst 0, 1) := by decide +kernel
theorem dX10_turn_27 : decode cX10_turn 27 = .ok (.istore_n 3, 1) := by decide +kernel
theorem dX10_turn_28 : decode cX10_turn 28 = .ok (.iload_n 3, 1) := by decide +kernel
theorem dX10_turn_29 : decode cX10_turn 29 = .ok (.bipush 36, 2) := by decide +kernel
theorem dX10_turn_31 : decode cX10_turn 31 = .ok (.if_icmp .gt 29, 3) := by decide +kernel
theorem dX10_turn_34 : decode cX10_turn 34 = .ok (.aload_n 0, 1) := by decide +kernel
theorem dX10_turn_35 : decode cX10_turn 35 = .ok (.iload_n 3, 1) := by decide +kernel
theorem dX10_turn_36 : decode cX10_turn 36 = .ok (.putfield 251, 3) := by decide +kernel
theorem dX10_turn_39 : decode cX10_turn 39 = .ok (.aload_n 0, 1) := by decide +kernel
theorem dX10_turn_40 : decode cX10_turn 40 = .ok (.iload_n 2, 1) := by decide +kernel
theorem dX10_turn_41 : decode cX10_turn 41 = .ok (.invokevirtual 333, 3) := by decide +kernel
theorem dX10_turn_44 : decode cX10_turn 44 = .ok (.aload_n 0, 1) := by decide +kernel
theorem dX10_turn_45 : decode cX10_turn 45 = .ok (.getfield 292, 3) := by decide +kernel
theorem dX10_turn_48 : decode cX10_turn 48 = .ok (.iconst 2, 1) := by decide +kernel
theorem dX10_turn_49 : decode cX10_turn 49 = .ok (.if_icmp .ne 5, 3) := by decide +kernel
theorem dX10_turn_52 : decode cX10_turn 52 = .ok (.iload_n 3, 1) := by decide +kernel
theorem dX10_turn_53 : decode cX10_turn 53 = .ok (.ireturn, 1) := by decide +kernel
theorem dX10_turn_54 : decode cX10_turn 54 = .ok (.iinc 3 1, 3) := by decide +kernel
theorem dX10_turn_57 : decode cX10_turn 57 = .ok (.goto (-29), 3) := by decide +kernel
theorem dX10_turn_60 : decode cX10_turn 60 = .ok (.iconst (-1), 1) := by decide +kernel
theorem dX10_turn_61 : decode cX10_turn 61 = .ok (.ireturn, 1) := by decide +kernel
theorem dX10_film_0 : decode cX10_film 0 = .ok (.iload_n 1, 1) := by decide +kernel
theorem dX10_film_1 : decode cX10_film 1 = .ok (.invokestatic 327, 3) := by decide +kernel
theorem dX10_film_4 : decode cX10_film 4 = .ok (.ifCond .eq 17, 3) := by decide +kernel
theorem dX10_film_7 : decode cX10_film 7 = .ok (.iload_n 2, 1) := by decide +kernel
theorem dX10_film_8 : decode cX10_film 8 = .ok (.i2l, 1) := by decide +kernel
theorem dX10_film_9 : decode cX10_film 9 = .ok (.ldc2_w 360, 3) := by decide +kernel
theorem dX10_film_12 : decode cX10_film 12 = .ok (.ldc2_w 362, 3) := by decide +kernel
theorem dX10_film_15 : decode cX10_film 15 = .ok (.invokestatic 81, 3) := by decide +kernel
theorem dX10_film_18 : decode cX10_film 18 = .ok (.ifCond .ne 6, 3) := by decide +kernel
theorem dX10_film_21 : decode cX10_film 21 = .ok (.ldc 87, 2) := by decide +kernel
theorem dX10_film_23 : decode cX10_film 23 = .ok (.ireturn, 1) := by decide +kernel
theorem dX10_film_24 : decode cX10_film 24 = .ok (.aload_n 0, 1) := by decide +kernel
theorem dX10_film_25 : decode cX10_film 25 = .ok (.invokevirtual 268, 3) := by decide +kernel
theorem dX10_film_28 : decode cX10_film 28 = .ok (.aload_n 0, 1) := by decide +kernel
theorem dX10_film_29 : decode cX10_film 29 = .ok (.bipush 10, 2) := by decide +kernel
theorem dX10_film_31 : decode cX10_film 31 = .ok (.putfield 239, 3) := by decide +kernel
theorem dX10_film_34 : decode cX10_film 34 = .ok (.aload_n 0, 1) := by decide +kernel
theorem dX10_film_35 : decode cX10_film 35 = .ok (.sipush 300, 3) := by decide +kernel
theorem dX10_film_38 : decode cX10_film 38 = .ok (.putfield 245, 3) := by decide +kernel
theorem dX10_film_41 : decode cX10_film 41 = .ok (.iconst (-1), 1) := by decide +kernel
theorem dX10_film_42 : decode cX10_film 42 = .ok (.istore_n 3, 1) := by decide +kernel
theorem dX10_film_43 : decode cX10_film 43 = .ok (.iconst 0, 1) := by decide +kernel
theorem dX10_film_44 : decode cX10_film 44 = .ok (.istore 4, 2) := by decide +kernel
theorem dX10_film_46 : decode cX10_film 46 = .ok (.iconst 0, 1) := by decide +kernel
theorem dX10_film_47 : decode cX10_film 47 = .ok (.istore 5, 2) := by decide +kernel
theorem dX10_film_49 : decode cX10_film 49 = .ok (.iload 5, 2) := by decide +kernel
theorem dX10_film_51 : decode cX10_film 51 = .ok (.sipush 600, 3) := by decide +kernel
theorem dX10_film_54 : decode cX10_film 54 = .ok (.if_icmp .gt 80, 3) := by decide +kernel
theorem dX10_film_57 : decode cX10_film 57 = .ok (.aload_n 0, 1) := by decide +kernel
theorem dX10_film_58 : decode cX10_film 58 = .ok (.iload 5, 2) := by decide +kernel
theorem dX10_film_60 : decode cX10_film 60 = .ok (.putfield 233, 3) := by decide +kernel
theorem dX10_film_63 : decode cX10_film 63 = .ok (.aload_n 0, 1) := by decide +kernel
theorem dX10_film_64 : decode cX10_film 64 = .ok (.invokevirtual 275, 3) := by decide +kernel
theorem dX10_film_67 : decode cX10_film 67 = .ok (.aload_n 0, 1) := by decide +kernel
theorem dX10_film_68 : decode cX10_film 68 = .ok (.getfield 48, 3) := by decide +kernel
theorem dX10_film_71 : decode cX10_film 71 = .ok (.iload_n 1, 1) := by decide +kernel
theorem dX10_film_72 : decode cX10_film 72 = .ok (.iaload, 1) := by decide +kernel
theorem dX10_film_73 : decode cX10_film 73 = .ok (.sipush 1000, 3) := by decide +kernel
theorem dX10_film_76 : decode cX10_film 76 = .ok (.idiv, 1) := by decide +kernel
theorem dX10_film_77 : decode cX10_film 77 = .ok (.iload_n 2, 1) := by decide +kernel
theorem dX10_film_78 : decode cX10_film 78 = .ok (.isub, 1) := by decide +kernel
theorem dX10_film_79 : decode cX10_film 79 = .ok (.invokestatic 216, 3) := by decide +kernel
theorem dX10_film_82 : decode cX10_film 82 = .ok (.istore 6, 2) := by decide +kernel
theorem dX10_film_84 : decode cX10_film 84 = .ok (.iload_n 3, 1) := by decide +kernel
theorem dX10_film_85 : decode cX10_film 85 = .ok (.ifCond .lt 10, 3) := by decide +kernel
theorem dX10_film_88 : decode cX10_film 88 = .ok (.iload 6, 2) := by decide +kernel
theorem dX10_film_90 : decode cX10_film 90 = .ok (.iload 4, 2) := by decide +kernel
theorem dX10_film_92 : decode cX10_film 92 = .ok (.if_icmp .ge 7, 3) := by decide +kernel
theorem dX10_film_95 : decode cX10_film 95 = .ok (.iconst 1, 1) := by decide +kernel
theorem dX10_film_96 : decode cX10_film 96 = .ok (.goto 4, 3) := by decide +kernel
theorem dX10_film_99 : decode cX10_film 99 = .ok (.iconst 0, 1) := by decide +kernel
theorem dX10_film_100 : decode cX10_film 100 = .ok (.istore 7, 2) := by decide +kernel
theorem dX10_film_102 : decode cX10_film 102 = .ok (.iload 7, 2) := by decide +kernel
theorem dX10_film_104 : decode cX10_film 104 = .ok (.ifCond .eq 8, 3) := by decide +kernel
theorem dX10_film_107 : decode cX10_film 107 = .ok (.iload 5, 2) := by decide +kernel
theorem dX10_film_109 : decode cX10_film 109 = .ok (.goto 4, 3) := by decide +kernel
theorem dX10_film_112 : decode cX10_film 112 = .ok (.iload_n 3, 1) := by decide +kernel
theorem dX10_film_113 : decode cX10_film 113 = .ok (.istore_n 3, 1) := by decide +kernel
theorem dX10_film_114 : decode cX10_film 114 = .ok (.iload 7, 2) := by decide +kernel
theorem dX10_film_116 : decode cX10_film 116 = .ok (.ifCond .eq 8, 3) := by decide +kernel
theorem dX10_film_119 : decode cX10_film 119 = .ok (.iload 6, 2) := by decide +kernel
theorem dX10_film_121 : decode cX10_film 121 = .ok (.goto 5, 3) := by decide +kernel
theorem dX10_film_124 : decode cX10_film 124 = .ok (.iload 4, 2) := by decide +kernel
theorem dX10_film_126 : decode cX10_film 126 = .ok (.istore 4, 2) := by decide +kernel
theorem dX10_film_128 : decode cX10_film 128 = .ok (.iinc 5 1, 3) := by decide +kernel
theorem dX10_film_131 : decode cX10_film 131 = .ok (.goto (-82), 3) := by decide +kernel
theorem dX10_film_134 : decode cX10_film 134 = .ok (.iload_n 3, 1) := by decide +kernel
theorem dX10_film_135 : decode cX10_film 135 = .ok (.ireturn, 1) := by decide +kernel
theorem dX10_age_0 : decode cX10_age 0 = .ok (.aload_n 0, 1) := by decide +kernel
theorem dX10_age_1 : decode cX10_age 1 = .ok (.iload_n 1, 1) := by decide +kernel
theorem dX10_age_2 : decode cX10_age 2 = .ok (.invokevirtual 204, 3) := by decide +kernel
theorem dX10_age_5 : decode cX10_age 5 = .ok (.ifCond .ne 6, 3) := by decide +kernel
theorem dX10_age_8 : decode cX10_age 8 = .ok (.ldc 197, 2) := by decide +kernel
theorem dX10_age_10 : decode cX10_age 10 = .ok (.ireturn, 1) := by decide +kernel
theorem dX10_age_11 : decode cX10_age 11 = .ok (.aload_n 0, 1) := by decide +kernel
theorem dX10_age_12 : decode cX10_age 12 = .ok (.iload_n 1, 1) := by decide +kernel
theorem dX10_age_13 : decode cX10_age 13 = .ok (.invokevirtual 330, 3) := by decide +kernel
theorem dX10_age_16 : decode cX10_age 16 = .ok (.iconst 0, 1) := by decide +kernel
theorem dX10_age_17 : decode cX10_age 17 = .ok (.istore_n 2, 1) := by decide +kernel
theorem dX10_age_18 : decode cX10_age 18 = .ok (.iload_n 2, 1) := by decide +kernel
theorem dX10_age_19 : decode cX10_age 19 = .ok (.bipush 40, 2) := by decide +kernel
theorem dX10_age_21 : decode cX10_age 21 = .ok (.if_icmp .gt 27, 3) := by decide +kernel
theorem dX10_age_24 : decode cX10_age 24 = .ok (.aload_n 0, 1) := by decide +kernel
theorem dX10_age_25 : decode cX10_age 25 = .ok (.aload_n 0, 1) := by decide +kernel
theorem dX10_age_26 : decode cX10_age 26 = .ok (.iload_n 2, 1) := by decide +kernel
theorem dX10_age_27 : decode cX10_age 27 = .ok (.invokevirtual 213, 3) := by decide +kernel
theorem dX10_age_30 : decode cX10_age 30 = .ok (.putfield 236, 3) := by decide +kernel
theorem dX10_age_33 : decode cX10_age 33 = .ok (.aload_n 0, 1) := by decide +kernel
theorem dX10_age_34 : decode cX10_age 34 = .ok (.invokevirtual 357, 3) := by decide +kernel
theorem dX10_age_37 : decode cX10_age 37 = .ok (.ifCond .ne 5, 3) := by decide +kernel
theorem dX10_age_40 : decode cX10_age 40 = .ok (.iload_n 2, 1) := by decide +kernel
theorem dX10_age_41 : decode cX10_age 41 = .ok (.ireturn, 1) := by decide +kernel
theorem dX10_age_42 : decode cX10_age 42 = .ok (.iinc 2 1, 3) := by decide +kernel
theorem dX10_age_45 : decode cX10_age 45 = .ok (.goto (-27), 3) := by decide +kernel
theorem dX10_age_48 : decode cX10_age 48 = .ok (.iconst (-1), 1) := by decide +kernel
theorem dX10_age_49 : decode cX10_age 49 = .ok (.ireturn, 1) := by decide +kernel
theorem dX10_isOut_0 : decode cX10_isOut 0 = .ok (.iload_n 2, 1) := by decide +kernel
theorem dX10_isOut_1 : decode cX10_isOut 1 = .ok (.iconst 1, 1) := by decide +kernel
theorem dX10_isOut_2 : decode cX10_isOut 2 = .ok (.iand, 1) := by decide +kernel
theorem dX10_isOut_3 : decode cX10_isOut 3 = .ok (.iconst 1, 1) := by decide +kernel
theorem dX10_isOut_4 : decode cX10_isOut 4 = .ok (.if_icmp .ne 20, 3) := by decide +kernel
theorem dX10_isOut_7 : decode cX10_isOut 7 = .ok (.aload_n 0, 1) := by decide +kernel
theorem dX10_isOut_8 : decode cX10_isOut 8 = .ok (.getfield 23, 3) := by decide +kernel
theorem dX10_isOut_11 : decode cX10_isOut 11 = .ok (.iconst 5, 1) := by decide +kernel
theorem dX10_isOut_12 : decode cX10_isOut 12 = .ok (.iload_n 1, 1) := by decide +kernel
theorem dX10_isOut_13 : decode cX10_isOut 13 = .ok (.imul, 1) := by decide +kernel
theorem dX10_isOut_14 : decode cX10_isOut 14 = .ok (.iaload, 1) := by decide +kernel
theorem dX10_isOut_15 : decode cX10_isOut 15 = .ok (.bipush 30, 2) := by decide +kernel
theorem dX10_isOut_17 : decode cX10_isOut 17 = .ok (.if_icmp .ge 7, 3) := by decide +kernel
theorem dX10_isOut_20 : decode cX10_isOut 20 = .ok (.iconst 1, 1) := by decide +kernel
theorem dX10_isOut_21 : decode cX10_isOut 21 = .ok (.goto 4, 3) := by decide +kernel
theorem dX10_isOut_24 : decode cX10_isOut 24 = .ok (.iconst 0, 1) := by decide +kernel
theorem dX10_isOut_25 : decode cX10_isOut 25 = .ok (.istore_n 3, 1) := by decide +kernel
theorem dX10_isOut_26 : decode cX10_isOut 26 = .ok (.iload_n 2, 1) := by decide +kernel
theorem dX10_isOut_27 : decode cX10_isOut 27 = .ok (.iconst 2, 1) := by decide +kernel
theorem dX10_isOut_28 : decode cX10_isOut 28 = .ok (.iand, 1) := by decide +kernel
theorem dX10_isOut_29 : decode cX10_isOut 29 = .ok (.iconst 2, 1) := by decide +kernel
theorem dX10_isOut_30 : decode cX10_isOut 30 = .ok (.if_icmp .ne 20, 3) := by decide +kernel
theorem dX10_isOut_33 : decode cX10_isOut 33 = .ok (.aload_n 0, 1) := by decide +kernel
theorem dX10_isOut_34 : decode cX10_isOut 34 = .ok (.getfield 23, 3) := by decide +kernel
theorem dX10_isOut_37 : decode cX10_isOut 37 = .ok (.iconst 5, 1) := by decide +kernel
theorem dX10_isOut_38 : decode cX10_isOut 38 = .ok (.iload_n 1, 1) := by decide +kernel
theorem dX10_isOut_39 : decode cX10_isOut 39 = .ok (.imul, 1) := by decide +kernel
theorem dX10_isOut_40 : decode cX10_isOut 40 = .ok (.iaload, 1) := by decide +kernel
theorem dX10_isOut_41 : decode cX10_isOut 41 = .ok (.bipush 90, 2) := by decide +kernel
theorem dX10_isOut_43 : decode cX10_isOut 43 = .ok (.if_icmp .le 7, 3) := by decide +kernel
theorem dX10_isOut_46 : decode cX10_isOut 46 = .ok (.iconst 1, 1) := by decide +kernel
theorem dX10_isOut_47 : decode cX10_isOut 47 = .ok (.goto 4, 3) := by decide +kernel
theorem dX10_isOut_50 : decode cX10_isOut 50 = .ok (.iconst 0, 1) := by decide +kernel
theorem dX10_isOut_51 : decode cX10_isOut 51 = .ok (.istore 4, 2) := by decide +kernel
theorem dX10_isOut_53 : decode cX10_isOut 53 = .ok (.iload_n 3, 1) := by decide +kernel
theorem dX10_isOut_54 : decode cX10_isOut 54 = .ok (.ifCond .ne 26, 3) := by decide +kernel
theorem dX10_isOut_57 : decode cX10_isOut 57 = .ok (.iload 4, 2) := by decide +kernel
theorem dX10_isOut_59 : decode cX10_isOut 59 = .ok (.ifCond .ne 21, 3) := by decide +kernel
theorem dX10_isOut_62 : decode cX10_isOut 62 = .ok (.iload_n 2, 1) := by decide +kernel
theorem dX10_isOut_63 : decode cX10_isOut 63 = .ok (.bipush 32, 2) := by decide +kernel
theorem dX10_isOut_65 : decode cX10_isOut 65 = .ok (.iand, 1) := by decide +kernel
theorem dX10_isOut_66 : decode cX10_isOut 66 = .ok (.bipush 32, 2) := by decide +kernel
theorem dX10_isOut_68 : decode cX10_isOut 68 = .ok (.if_icmp .ne 16, 3) := by decide +kernel
theorem dX10_isOut_71 : decode cX10_isOut 71 = .ok (.aload_n 0, 1) := by decide +kernel
theorem dX10_isOut_72 : decode cX10_isOut 72 = .ok (.invokevirtual 192, 3) := by decide +kernel
theorem dX10_isOut_75 : decode cX10_isOut 75 = .ok (.bipush 50, 2) := by decide +kernel
theorem dX10_isOut_77 : decode cX10_isOut 77 = .ok (.if_icmp .lt 7, 3) := by decide +kernel
theorem dX10_isOut_80 : decode cX10_isOut 80 = .ok (.iconst 1, 1) := by decide +kernel
theorem dX10_isOut_81 : decode cX10_isOut 81 = .ok (.goto 4, 3) := by decide +kernel
theorem dX10_isOut_84 : decode cX10_isOut 84 = .ok (.iconst 0, 1) := by decide +kernel
theorem dX10_isOut_85 : decode cX10_isOut 85 = .ok (.ireturn, 1) := by decide +kernel
theorem dX10_findFarthest_0 : decode cX10_findFarthest 0 = .ok (.iconst 0, 1) := by decide +kernel
theorem dX10_findFarthest_1 : decode cX10_findFarthest 1 = .ok (.istore_n 1, 1) := by decide +kernel
theorem dX10_findFarthest_2 : decode cX10_findFarthest 2 = .ok (.iload_n 1, 1) := by decide +kernel
theorem dX10_findFarthest_3 : decode cX10_findFarthest 3 = .ok (.aload_n 0, 1) := by decide +kernel
theorem dX10_findFarthest_4 : decode cX10_findFarthest 4 = .ok (.getfield 78, 3) := by decide +kernel
theorem dX10_findFarthest_7 : decode cX10_findFarthest 7 = .ok (.if_icmp .ge 36, 3) := by decide +kernel
theorem dX10_findFarthest_10 : decode cX10_findFarthest 10 = .ok (.aload_n 0, 1) := by decide +kernel
theorem dX10_findFarthest_11 : decode cX10_findFarthest 11 = .ok (.iload_n 1, 1) := by decide +kernel
theorem dX10_findFarthest_12 : decode cX10_findFarthest 12 = .ok (.invokevirtual 330, 3) := by decide +kernel
theorem dX10_findFarthest_15 : decode cX10_findFarthest 15 = .ok (.aload_n 0, 1) := by decide +kernel
theorem dX10_findFarthest_16 : decode cX10_findFarthest 16 = .ok (.iconst 0, 1) := by decide +kernel
theorem dX10_findFarthest_17 : decode cX10_findFarthest 17 = .ok (.invokevirtual 339, 3) := by decide +kernel
theorem dX10_findFarthest_20 : decode cX10_findFarthest 20 = .ok (.istore_n 2, 1) := by decide +kernel
theorem dX10_findFarthest_21 : decode cX10_findFarthest 21 = .ok (.aload_n 0, 1) := by decide +kernel
theorem dX10_findFarthest_22 : decode cX10_findFarthest 22 = .ok (.getfield 60, 3) := by decide +kernel
theorem dX10_findFarthest_25 : decode cX10_findFarthest 25 = .ok (.iload_n 1, 1) := by decide +kernel
theorem dX10_findFarthest_26 : decode cX10_findFarthest 26 = .ok (.iload_n 2, 1) := by decide +kernel
theorem dX10_findFarthest_27 : decode cX10_findFarthest 27 = .ok (.ifCond .ge 8, 3) := by decide +kernel
theorem dX10_findFarthest_30 : decode cX10_findFarthest 30 = .ok (.bipush 20, 2) := by decide +kernel
theorem dX10_findFarthest_32 : decode cX10_findFarthest 32 = .ok (.goto 4, 3) := by decide +kernel
theorem dX10_findFarthest_35 : decode cX10_findFarthest 35 = .ok (.iload_n 2, 1) := by decide +kernel
theorem dX10_findFarthest_36 : decode cX10_findFarthest 36 = .ok (.iastore, 1) := by decide +kernel
theorem dX10_findFarthest_37 : decode cX10_findFarthest 37 = .ok (.iinc 1 1, 3) := by decide +kernel
theorem dX10_findFarthest_40 : decode cX10_findFarthest 40 = .ok (.goto (-38), 3) := by decide +kernel
theorem dX10_findFarthest_43 : decode cX10_findFarthest 43 = .ok (.return_, 1) := by decide +kernel
theorem dX10_harmedBy_0 : decode cX10_harmedBy 0 = .ok (.iconst 0, 1) := by decide +kernel
theorem dX10_harmedBy_1 : decode cX10_harmedBy 1 = .ok (.istore_n 2, 1) := by decide +kernel
theorem dX10_harmedBy_2 : decode cX10_harmedBy 2 = .ok (.iconst 0, 1) := by decide +kernel
theorem dX10_harmedBy_3 : decode cX10_harmedBy 3 = .ok (.istore_n 3, 1) := by decide +kernel
theorem dX10_harmedBy_4 : decode cX10_harmedBy 4 = .ok (.iload_n 3, 1) := by decide +kernel
theorem dX10_harmedBy_5 : decode cX10_harmedBy 5 = .ok (.aload_n 0, 1) := by decide +kernel
theorem dX10_harmedBy_6 : decode cX10_harmedBy 6 = .ok (.getfield 78, 3) := by decide +kernel
theorem dX10_harmedBy_9 : decode cX10_harmedBy 9 = .ok (.if_icmp .ge 119, 3) := by decide +kernel
theorem dX10_harmedBy_12 : decode cX10_harmedBy 12 = .ok (.aload_n 0, 1) := by decide +kernel
theorem dX10_harmedBy_13 : decode cX10_harmedBy 13 = .ok (.invokevirtual 268, 3) := by decide +kernel
theorem dX10_harmedBy_16 : decode cX10_harmedBy 16 = .ok (.aload_n 0, 1) := by decide +kernel
theorem dX10_harmedBy_17 : decode cX10_harmedBy 17 = .ok (.iload_n 3, 1) := by decide +kernel
theorem dX10_harmedBy_18 : decode cX10_harmedBy 18 = .ok (.invokevirtual 271, 3) := by decide +kernel
theorem dX10_harmedBy_21 : decode cX10_harmedBy 21 = .ok (.aload_n 0, 1) := by decide +kernel
theorem dX10_harmedBy_22 : decode cX10_harmedBy 22 = .ok (.iload_n 1, 1) := by decide +kernel
theorem dX10_harmedBy_23 : decode cX10_harmedBy 23 = .ok (.iconst 4, 1) := by decide +kernel
theorem dX10_harmedBy_24 : decode cX10_harmedBy 24 = .ok (.iand, 1) := by decide +kernel
theorem dX10_harmedBy_25 : decode cX10_harmedBy 25 = .ok (.iconst 4, 1) := by decide +kernel
theorem dX10_harmedBy_26 : decode cX10_harmedBy 26 = .ok (.if_icmp .ne 7, 3) := by decide +kernel
theorem dX10_harmedBy_29 : decode cX10_harmedBy 29 = .ok (.iconst 0, 1) := by decide +kernel
theorem dX10_harmedBy_30 : decode cX10_harmedBy 30 = .ok (.goto 7, 3) := by decide +kernel
theorem dX10_harmedBy_33 : decode cX10_harmedBy 33 = .ok (.aload_n 0, 1) := by decide +kernel
theorem dX10_harmedBy_34 : decode cX10_harmedBy 34 = .ok (.getfield 233, 3) := by decide +kernel
theorem dX10_harmedBy_37 : decode cX10_harmedBy 37 = .ok (.putfield 233, 3) := by decide +kernel
theorem dX10_harmedBy_40 : decode cX10_harmedBy 40 = .ok (.aload_n 0, 1) := by decide +kernel
theorem dX10_harmedBy_41 : decode cX10_harmedBy 41 = .ok (.iload_n 1, 1) := by decide +kernel
theorem dX10_harmedBy_42 : decode cX10_harmedBy 42 = .ok (.bipush 8, 2) := by decide +kernel
theorem dX10_harmedBy_44 : decode cX10_harmedBy 44 = .ok (.iand, 1) := by decide +kernel
theorem dX10_harmedBy_45 : decode cX10_harmedBy 45 = .ok (.bipush 8, 2) := by decide +kernel
theorem dX10_harmedBy_47 : decode cX10_harmedBy 47 = .ok (.if_icmp .ne 11, 3) := by decide +kernel
theorem dX10_harmedBy_50 : decode cX10_harmedBy 50 = .ok (.aload_n 0, 1) := by decide +kernel
theorem dX10_harmedBy_51 : decode cX10_harmedBy 51 = .ok (.iconst 0, 1) := by decide +kernel
theorem dX10_harmedBy_52 : decode cX10_harmedBy 52 = .ok (.invokevirtual 213, 3) := by decide +kernel
theorem dX10_harmedBy_55 : decode cX10_harmedBy 55 = .ok (.goto 7, 3) := by decide +kernel
theorem dX10_harmedBy_58 : decode cX10_harmedBy 58 = .ok (.aload_n 0, 1) := by decide +kernel
theorem dX10_harmedBy_59 : decode cX10_harmedBy 59 = .ok (.getfield 236, 3) := by decide +kernel
theorem dX10_harmedBy_62 : decode cX10_harmedBy 62 = .ok (.putfield 236, 3) := by decide +kernel
theorem dX10_harmedBy_65 : decode cX10_harmedBy 65 = .ok (.aload_n 0, 1) := by decide +kernel
theorem dX10_harmedBy_66 : decode cX10_harmedBy 66 = .ok (.iload_n 1, 1) := by decide +kernel
theorem dX10_harmedBy_67 : decode cX10_harmedBy 67 = .ok (.bipush 16, 2) := by decide +kernel
theorem dX10_harmedBy_69 : decode cX10_harmedBy 69 = .ok (.iand, 1) := by decide +kernel
theorem dX10_harmedBy_70 : decode cX10_harmedBy 70 = .ok (.bipush 16, 2) := by decide +kernel
theorem dX10_harmedBy_72 : decode cX10_harmedBy 72 = .ok (.if_icmp .ne 7, 3) := by decide +kernel
theorem dX10_harmedBy_75 : decode cX10_harmedBy 75 = .ok (.iconst 0, 1) := by decide +kernel
theorem dX10_harmedBy_76 : decode cX10_harmedBy 76 = .ok (.goto 7, 3) := by decide +kernel
theorem dX10_harmedBy_79 : decode cX10_harmedBy 79 = .ok (.aload_n 0, 1) := by decide +kernel
theorem dX10_harmedBy_80 : decode cX10_harmedBy 80 = .ok (.getfield 248, 3) := by decide +kernel
theorem dX10_harmedBy_83 : decode cX10_harmedBy 83 = .ok (.putfield 248, 3) := by decide +kernel
theorem dX10_harmedBy_86 : decode cX10_harmedBy 86 = .ok (.aload_n 0, 1) := by decide +kernel
theorem dX10_harmedBy_87 : decode cX10_harmedBy 87 = .ok (.invokevirtual 275, 3) := by decide +kernel
theorem dX10_harmedBy_90 : decode cX10_harmedBy 90 = .ok (.iload_n 2, 1) := by decide +kernel
theorem dX10_harmedBy_91 : decode cX10_harmedBy 91 = .ok (.aload_n 0, 1) := by decide +kernel
theorem dX10_harmedBy_92 : decode cX10_harmedBy 92 = .ok (.iload_n 3, 1) := by decide +kernel
theorem dX10_harmedBy_93 : decode cX10_harmedBy 93 = .ok (.iload_n 1, 1) := by decide +kernel
theorem dX10_harmedBy_94 : decode cX10_harmedBy 94 = .ok (.invokevirtual 364, 3) := by decide +kernel
theorem dX10_harmedBy_97 : decode cX10_harmedBy 97 = .ok (.ifCond .ne 16, 3) := by decide +kernel
theorem dX10_harmedBy_100 : decode cX10_harmedBy 100 = .ok (.aload_n 0, 1) := by decide +kernel
theorem dX10_harmedBy_101 : decode cX10_harmedBy 101 = .ok (.aload_n 0, 1) := by decide +kernel
theorem dX10_harmedBy_102 : decode cX10_harmedBy 102 = .ok (.getfield 60, 3) := by decide +kernel
theorem dX10_harmedBy_105 : decode cX10_harmedBy 105 = .ok (.iload_n 3, 1) := by decide +kernel
theorem dX10_harmedBy_106 : decode cX10_harmedBy 106 = .ok (.iaload, 1) := by decide +kernel
theorem dX10_harmedBy_107 : decode cX10_harmedBy 107 = .ok (.invokevirtual 336, 3) := by decide +kernel
theorem dX10_harmedBy_110 : decode cX10_harmedBy 110 = .ok (.ifCond .eq 7, 3) := by decide +kernel
theorem dX10_harmedBy_113 : decode cX10_harmedBy 113 = .ok (.iconst 0, 1) := by decide +kernel
theorem dX10_harmedBy_114 : decode cX10_harmedBy 114 = .ok (.goto 6, 3) := by decide +kernel
theorem dX10_harmedBy_117 : decode cX10_harmedBy 117 = .ok (.iconst 1, 1) := by decide +kernel
theorem dX10_harmedBy_118 : decode cX10_harmedBy 118 = .ok (.iload_n 3, 1) := by decide +kernel
theorem dX10_harmedBy_119 : decode cX10_harmedBy 119 = .ok (.ishl, 1) := by decide +kernel
theorem dX10_harmedBy_120 : decode cX10_harmedBy 120 = .ok (.ior, 1) := by decide +kernel
theorem dX10_harmedBy_121 : decode cX10_harmedBy 121 = .ok (.istore_n 2, 1) := by decide +kernel
theorem dX10_harmedBy_122 : decode cX10_harmedBy 122 = .ok (.iinc 3 1, 3) := by decide +kernel
theorem dX10_harmedBy_125 : decode cX10_harmedBy 125 = .ok (.goto (-121), 3) := by decide +kernel
theorem dX10_harmedBy_128 : decode cX10_harmedBy 128 = .ok (.iload_n 2, 1) := by decide +kernel
theorem dX10_harmedBy_129 : decode cX10_harmedBy 129 = .ok (.ireturn, 1) := by decide +kernel
theorem dX10_harmed_0 : decode cX10_harmed 0 = .ok (.iload_n 1, 1) := by decide +kernel
theorem dX10_harmed_1 : decode cX10_harmed 1 = .ok (.i2l, 1) := by decide +kernel
theorem dX10_harmed_2 : decode cX10_harmed 2 = .ok (.lconst 0, 1) := by decide +kernel
theorem dX10_harmed_3 : decode cX10_harmed 3 = .ok (.ldc2_w 368, 3) := by decide +kernel
theorem dX10_harmed_6 : decode cX10_harmed 6 = .ok (.invokestatic 81, 3) := by decide +kernel
theorem dX10_harmed_9 : decode cX10_harmed 9 = .ok (.ifCond .ne 6, 3) := by decide +kernel
theorem dX10_harmed_12 : decode cX10_harmed 12 = .ok (.ldc 87, 2) := by decide +kernel
theorem dX10_harmed_14 : decode cX10_harmed 14 = .ok (.ireturn, 1) := by decide +kernel
theorem dX10_harmed_15 : decode cX10_harmed 15 = .ok (.aload_n 0, 1) := by decide +kernel
theorem dX10_harmed_16 : decode cX10_harmed 16 = .ok (.invokevirtual 370, 3) := by decide +kernel
theorem dX10_harmed_19 : decode cX10_harmed 19 = .ok (.aload_n 0, 1) := by decide +kernel
theorem dX10_harmed_20 : decode cX10_harmed 20 = .ok (.iload_n 1, 1) := by decide +kernel
theorem dX10_harmed_21 : decode cX10_harmed 21 = .ok (.invokevirtual 373, 3) := by decide +kernel
theorem dX10_harmed_24 : decode cX10_harmed 24 = .ok (.ireturn, 1) := by decide +kernel
theorem dX10_bits_0 : decode cX10_bits 0 = .ok (.iconst 0, 1) := by decide +kernel
theorem dX10_bits_1 : decode cX10_bits 1 = .ok (.istore_n 1, 1) := by decide +kernel
theorem dX10_bits_2 : decode cX10_bits 2 = .ok (.iconst 0, 1) := by decide +kernel
theorem dX10_bits_3 : decode cX10_bits 3 = .ok (.istore_n 2, 1) := by decide +kernel
theorem dX10_bits_4 : decode cX10_bits 4 = .ok (.iload_n 2, 1) := by decide +kernel
theorem dX10_bits_5 : decode cX10_bits 5 = .ok (.bipush 6, 2) := by decide +kernel
theorem dX10_bits_7 : decode cX10_bits 7 = .ok (.if_icmp .ge 17, 3) := by decide +kernel
theorem dX10_bits_10 : decode cX10_bits 10 = .ok (.iload_n 1, 1) := by decide +kernel
theorem dX10_bits_11 : decode cX10_bits 11 = .ok (.iload_n 0, 1) := by decide +kernel
theorem dX10_bits_12 : decode cX10_bits 12 = .ok (.iload_n 2, 1) := by decide +kernel
theorem dX10_bits_13 : decode cX10_bits 13 = .ok (.ishr, 1) := by decide +kernel
theorem dX10_bits_14 : decode cX10_bits 14 = .ok (.iconst 1, 1) := by decide +kernel
theorem dX10_bits_15 : decode cX10_bits 15 = .ok (.iand, 1) := by decide +kernel
theorem dX10_bits_16 : decode cX10_bits 16 = .ok (.iadd, 1) := by decide +kernel
theorem dX10_bits_17 : decode cX10_bits 17 = .ok (.istore_n 1, 1) := by decide +kernel
theorem dX10_bits_18 : decode cX10_bits 18 = .ok (.iinc 2 1, 3) := by decide +kernel
theorem dX10_bits_21 : decode cX10_bits 21 = .ok (.goto (-17), 3) := by decide +kernel
theorem dX10_bits_24 : decode cX10_bits 24 = .ok (.iload_n 1, 1) := by decide +kernel
theorem dX10_bits_25 : decode cX10_bits 25 = .ok (.ireturn, 1) := by decide +kernel
theorem dX10_enough_0 : decode cX10_enough 0 = .ok (.aload_n 0, 1) := by decide +kernel
theorem dX10_enough_1 : decode cX10_enough 1 = .ok (.invokevirtual 370, 3) := by decide +kernel
theorem dX10_enough_4 : decode cX10_enough 4 = .ok (.iconst (-1), 1) := by decide +kernel
theorem dX10_enough_5 : decode cX10_enough 5 = .ok (.istore_n 1, 1) := by decide +kernel
theorem dX10_enough_6 : decode cX10_enough 6 = .ok (.iconst 0, 1) := by decide +kernel
theorem dX10_enough_7 : decode cX10_enough 7 = .ok (.istore_n 2, 1) := by decide +kernel
theorem dX10_enough_8 : decode cX10_enough 8 = .ok (.iload_n 2, 1) := by decide +kernel
theorem dX10_enough_9 : decode cX10_enough 9 = .ok (.bipush 64, 2) := by decide +kernel
theorem dX10_enough_11 : decode cX10_enough 11 = .ok (.if_icmp .ge 48, 3) := by decide +kernel
theorem dX10_enough_14 : decode cX10_enough 14 = .ok (.iload_n 1, 1) := by decide +kernel
theorem dX10_enough_15 : decode cX10_enough 15 = .ok (.ifCond .lt 14, 3) := by decide +kernel
theorem dX10_enough_18 : decode cX10_enough 18 = .ok (.iload_n 2, 1) := by decide +kernel
theorem dX10_enough_19 : decode cX10_enough 19 = .ok (.invokestatic 376, 3) := by decide +kernel
theorem dX10_enough_22 : decode cX10_enough 22 = .ok (.iload_n 1, 1) := by decide +kernel
theorem dX10_enough_23 : decode cX10_enough 23 = .ok (.invokestatic 376, 3) := by decide +kernel
theorem dX10_enough_26 : decode cX10_enough 26 = .ok (.if_icmp .ge 7, 3) := by decide +kernel
theorem dX10_enough_29 : decode cX10_enough 29 = .ok (.iconst 1, 1) := by decide +kernel
theorem dX10_enough_30 : decode cX10_enough 30 = .ok (.goto 4, 3) := by decide +kernel
theorem dX10_enough_33 : decode cX10_enough 33 = .ok (.iconst 0, 1) := by decide +kernel
theorem dX10_enough_34 : decode cX10_enough 34 = .ok (.istore_n 3, 1) := by decide +kernel
theorem dX10_enough_35 : decode cX10_enough 35 = .ok (.iload_n 3, 1) := by decide +kernel
theorem dX10_enough_36 : decode cX10_enough 36 = .ok (.ifCond .eq 15, 3) := by decide +kernel
theorem dX10_enough_39 : decode cX10_enough 39 = .ok (.aload_n 0, 1) := by decide +kernel
theorem dX10_enough_40 : decode cX10_enough 40 = .ok (.iload_n 2, 1) := by decide +kernel
theorem dX10_enough_41 : decode cX10_enough 41 = .ok (.invokevirtual 373, 3) := by decide +kernel
theorem dX10_enough_44 : decode cX10_enough 44 = .ok (.ifCond .ne 7, 3) := by decide +kernel
theorem dX10_enough_47 : decode cX10_enough 47 = .ok (.iload_n 2, 1) := by decide +kernel
theorem dX10_enough_48 : decode cX10_enough 48 = .ok (.goto 4, 3) := by decide +kernel
theorem dX10_enough_51 : decode cX10_enough 51 = .ok (.iload_n 1, 1) := by decide +kernel
theorem dX10_enough_52 : decode cX10_enough 52 = .ok (.istore_n 1, 1) := by decide +kernel
theorem dX10_enough_53 : decode cX10_enough 53 = .ok (.iinc 2 1, 3) := by decide +kernel
theorem dX10_enough_56 : decode cX10_enough 56 = .ok (.goto (-48), 3) := by decide +kernel
theorem dX10_enough_59 : decode cX10_enough 59 = .ok (.iload_n 1, 1) := by decide +kernel
theorem dX10_enough_60 : decode cX10_enough 60 = .ok (.ireturn, 1) := by decide +kernel
theorem dX10_seed_0 : decode cX10_seed 0 = .ok (.iload_n 1, 1) := by decide +kernel
theorem dX10_seed_1 : decode cX10_seed 1 = .ok (.ifCond .ge 6, 3) := by decide +kernel
theorem dX10_seed_4 : decode cX10_seed 4 = .ok (.ldc 87, 2) := by decide +kernel
theorem dX10_seed_6 : decode cX10_seed 6 = .ok (.ireturn, 1) := by decide +kernel
theorem dX10_seed_7 : decode cX10_seed 7 = .ok (.aload_n 0, 1) := by decide +kernel
theorem dX10_seed_8 : decode cX10_seed 8 = .ok (.getfield 379, 3) := by decide +kernel
theorem dX10_seed_11 : decode cX10_seed 11 = .ok (.istore_n 2, 1) := by decide +kernel
theorem dX10_seed_12 : decode cX10_seed 12 = .ok (.aload_n 0, 1) := by decide +kernel
theorem dX10_seed_13 : decode cX10_seed 13 = .ok (.iload_n 1, 1) := by decide +kernel
theorem dX10_seed_14 : decode cX10_seed 14 = .ok (.putfield 379, 3) := by decide +kernel
theorem dX10_seed_17 : decode cX10_seed 17 = .ok (.iload_n 2, 1) := by decide +kernel
theorem dX10_seed_18 : decode cX10_seed 18 = .ok (.ireturn, 1) := by decide +kernel
theorem dX10_draw_0 : decode cX10_draw 0 = .ok (.aload_n 0, 1) := by decide +kernel
theorem dX10_draw_1 : decode cX10_draw 1 = .ok (.aload_n 0, 1) := by decide +kernel
theorem dX10_draw_2 : decode cX10_draw 2 = .ok (.getfield 379, 3) := by decide +kernel
theorem dX10_draw_5 : decode cX10_draw 5 = .ok (.i2l, 1) := by decide +kernel
theorem dX10_draw_6 : decode cX10_draw 6 = .ok (.ldc2_w 382, 3) := by decide +kernel
theorem dX10_draw_9 : decode cX10_draw 9 = .ok (.lmul, 1) := by decide +kernel
theorem dX10_draw_10 : decode cX10_draw 10 = .ok (.ldc2_w 384, 3) := by decide +kernel
theorem dX10_draw_13 : decode cX10_draw 13 = .ok (.ladd, 1) := by decide +kernel
theorem dX10_draw_14 : decode cX10_draw 14 = .ok (.ldc2_w 386, 3) := by decide +kernel
theorem dX10_draw_17 : decode cX10_draw 17 = .ok (.lrem, 1) := by decide +kernel
theorem dX10_draw_18 : decode cX10_draw 18 = .ok (.l2i, 1) := by decide +kernel
theorem dX10_draw_19 : decode cX10_draw 19 = .ok (.putfield 379, 3) := by decide +kernel
theorem dX10_draw_22 : decode cX10_draw 22 = .ok (.aload_n 0, 1) := by decide +kernel
theorem dX10_draw_23 : decode cX10_draw 23 = .ok (.getfield 379, 3) := by decide +kernel
theorem dX10_draw_26 : decode cX10_draw 26 = .ok (.ldc_w 388, 3) := by decide +kernel
theorem dX10_draw_29 : decode cX10_draw 29 = .ok (.idiv, 1) := by decide +kernel
theorem dX10_draw_30 : decode cX10_draw 30 = .ok (.iload_n 1, 1) := by decide +kernel
theorem dX10_draw_31 : decode cX10_draw 31 = .ok (.irem, 1) := by decide +kernel
theorem dX10_draw_32 : decode cX10_draw 32 = .ok (.ireturn, 1) := by decide +kernel
theorem dX10_afternoon_0 : decode cX10_afternoon 0 = .ok (.iload_n 1, 1) := by decide +kernel
theorem dX10_afternoon_1 : decode cX10_afternoon 1 = .ok (.i2l, 1) := by decide +kernel
theorem dX10_afternoon_2 : decode cX10_afternoon 2 = .ok (.lconst 1, 1) := by decide +kernel
theorem dX10_afternoon_3 : decode cX10_afternoon 3 = .ok (.ldc2_w 353, 3) := by decide +kernel
theorem dX10_afternoon_6 : decode cX10_afternoon 6 = .ok (.invokestatic 81, 3) := by decide +kernel
theorem dX10_afternoon_9 : decode cX10_afternoon 9 = .ok (.ifCond .ne 6, 3) := by decide +kernel
theorem dX10_afternoon_12 : decode cX10_afternoon 12 = .ok (.ldc 87, 2) := by decide +kernel
theorem dX10_afternoon_14 : decode cX10_afternoon 14 = .ok (.ireturn, 1) := by decide +kernel
theorem dX10_afternoon_15 : decode cX10_afternoon 15 = .ok (.aload_n 0, 1) := by decide +kernel
theorem dX10_afternoon_16 : decode cX10_afternoon 16 = .ok (.getfield 78, 3) := by decide +kernel
theorem dX10_afternoon_19 : decode cX10_afternoon 19 = .ok (.ifCond .ne 6, 3) := by decide +kernel
theorem dX10_afternoon_22 : decode cX10_afternoon 22 = .ok (.ldc 188, 2) := by decide +kernel
theorem dX10_afternoon_24 : decode cX10_afternoon 24 = .ok (.ireturn, 1) := by decide +kernel
theorem dX10_afternoon_25 : decode cX10_afternoon 25 = .ok (.iconst 0, 1) := by decide +kernel
theorem dX10_afternoon_26 : decode cX10_afternoon 26 = .ok (.istore_n 2, 1) := by decide +kernel
theorem dX10_afternoon_27 : decode cX10_afternoon 27 = .ok (.iconst 0, 1) := by decide +kernel
theorem dX10_afternoon_28 : decode cX10_afternoon 28 = .ok (.istore_n 3, 1) := by decide +kernel
theorem dX10_afternoon_29 : decode cX10_afternoon 29 = .ok (.iload_n 3, 1) := by decide +kernel
theorem dX10_afternoon_30 : decode cX10_afternoon 30 = .ok (.iload_n 1, 1) := by decide +kernel
theorem dX10_afternoon_31 : decode cX10_afternoon 31 = .ok (.if_icmp .ge 57, 3) := by decide +kernel
theorem dX10_afternoon_34 : decode cX10_afternoon 34 = .ok (.aload_n 0, 1) := by decide +kernel
theorem dX10_afternoon_35 : decode cX10_afternoon 35 = .ok (.aload_n 0, 1) := by decide +kernel
theorem dX10_afternoon_36 : decode cX10_afternoon 36 = .ok (.aload_n 0, 1) := by decide +kernel
theorem dX10_afternoon_37 : decode cX10_afternoon 37 = .ok (.getfield 78, 3) := by decide +kernel
theorem dX10_afternoon_40 : decode cX10_afternoon 40 = .ok (.invokevirtual 389, 3) := by decide +kernel
theorem dX10_afternoon_43 : decode cX10_afternoon 43 = .ok (.invokevirtual 330, 3) := by decide +kernel
theorem dX10_afternoon_46 : decode cX10_afternoon 46 = .ok (.iload_n 2, 1) := by decide +kernel
theorem dX10_afternoon_47 : decode cX10_afternoon 47 = .ok (.aload_n 0, 1) := by decide +kernel
theorem dX10_afternoon_48 : decode cX10_afternoon 48 = .ok (.iconst 1, 1) := by decide +kernel
theorem dX10_afternoon_49 : decode cX10_afternoon 49 = .ok (.aload_n 0, 1) := by decide +kernel
theorem dX10_afternoon_50 : decode cX10_afternoon 50 = .ok (.bipush 60, 2) := by decide +kernel
theorem dX10_afternoon_52 : decode cX10_afternoon 52 = .ok (.invokevirtual 389, 3) := by decide +kernel
theorem dX10_afternoon_55 : decode cX10_afternoon 55 = .ok (.iadd, 1) := by decide +kernel
theorem dX10_afternoon_56 : decode cX10_afternoon 56 = .ok (.invokevirtual 336, 3) := by decide +kernel
theorem dX10_afternoon_59 : decode cX10_afternoon 59 = .ok (.ifCond .eq 7, 3) := by decide +kernel
theorem dX10_afternoon_62 : decode cX10_afternoon 62 = .ok (.iconst 1, 1) := by decide +kernel
theorem dX10_afternoon_63 : decode cX10_afternoon 63 = .ok (.goto 4, 3) := by decide +kernel
theorem dX10_afternoon_66 : decode cX10_afternoon 66 = .ok (.iconst 0, 1) := by decide +kernel
theorem dX10_afternoon_67 : decode cX10_afternoon 67 = .ok (.iadd, 1) := by decide +kernel
theorem dX10_afternoon_68 : decode cX10_afternoon 68 = .ok (.istore_n 2, 1) := by decide +kernel
theorem dX10_afternoon_69 : decode cX10_afternoon 69 = .ok (.aload_n 0, 1) := by decide +kernel
theorem dX10_afternoon_70 : decode cX10_afternoon 70 = .ok (.getfield 63, 3) := by decide +kernel
theorem dX10_afternoon_73 : decode cX10_afternoon 73 = .ok (.aload_n 0, 1) := by decide +kernel
theorem dX10_afternoon_74 : decode cX10_afternoon 74 = .ok (.getfield 292, 3) := by decide +kernel
theorem dX10_afternoon_77 : decode cX10_afternoon 77 = .ok (.dup2, 1) := by decide +kernel
theorem dX10_afternoon_78 : decode cX10_afternoon 78 = .ok (.iaload, 1) := by decide +kernel
theorem dX10_afternoon_79 : decode cX10_afternoon 79 = .ok (.iconst 1, 1) := by decide +kernel
theorem dX10_afternoon_80 : decode cX10_afternoon 80 = .ok (.iadd, 1) := by decide +kernel
theorem dX10_afternoon_81 : decode cX10_afternoon 81 = .ok (.iastore, 1) := by decide +kernel
theorem dX10_afternoon_82 : decode cX10_afternoon 82 = .ok (.iinc 3 1, 3) := by decide +kernel
theorem dX10_afternoon_85 : decode cX10_afternoon 85 = .ok (.goto (-56), 3) := by decide +kernel
theorem dX10_afternoon_88 : decode cX10_afternoon 88 = .ok (.iload_n 2, 1) := by decide +kernel
theorem dX10_afternoon_89 : decode cX10_afternoon 89 = .ok (.ireturn, 1) := by decide +kernel
theorem dX10_ends_0 : decode cX10_ends 0 = .ok (.iload_n 1, 1) := by decide +kernel
theorem dX10_ends_1 : decode cX10_ends 1 = .ok (.i2l, 1) := by decide +kernel
theorem dX10_ends_2 : decode cX10_ends 2 = .ok (.lconst 0, 1) := by decide +kernel
theorem dX10_ends_3 : decode cX10_ends 3 = .ok (.ldc2_w 85, 3) := by decide +kernel
theorem dX10_ends_6 : decode cX10_ends 6 = .ok (.invokestatic 81, 3) := by decide +kernel
theorem dX10_ends_9 : decode cX10_ends 9 = .ok (.ifCond .eq 12, 3) := by decide +kernel
theorem dX10_ends_12 : decode cX10_ends 12 = .ok (.aload_n 0, 1) := by decide +kernel
theorem dX10_ends_13 : decode cX10_ends 13 = .ok (.getfield 63, 3) := by decide +kernel
theorem dX10_ends_16 : decode cX10_ends 16 = .ok (.iload_n 1, 1) := by decide +kernel
theorem dX10_ends_17 : decode cX10_ends 17 = .ok (.iaload, 1) := by decide +kernel
theorem dX10_ends_18 : decode cX10_ends 18 = .ok (.goto 5, 3) := by decide +kernel
theorem dX10_ends_21 : decode cX10_ends 21 = .ok (.ldc 87, 2) := by decide +kernel
theorem dX10_ends_23 : decode cX10_ends 23 = .ok (.ireturn, 1) := by decide +kernel
theorem dX10_keep_0 : decode cX10_keep 0 = .ok (.iload_n 1, 1) := by decide +kernel
theorem dX10_keep_1 : decode cX10_keep 1 = .ok (.i2l, 1) := by decide +kernel
theorem dX10_keep_2 : decode cX10_keep 2 = .ok (.lconst 0, 1) := by decide +kernel
theorem dX10_keep_3 : decode cX10_keep 3 = .ok (.lconst 1, 1) := by decide +kernel
theorem dX10_keep_4 : decode cX10_keep 4 = .ok (.invokestatic 81, 3) := by decide +kernel
theorem dX10_keep_7 : decode cX10_keep 7 = .ok (.ifCond .ne 6, 3) := by decide +kernel
theorem dX10_keep_10 : decode cX10_keep 10 = .ok (.ldc 197, 2) := by decide +kernel
theorem dX10_keep_12 : decode cX10_keep 12 = .ok (.ireturn, 1) := by decide +kernel
theorem dX10_keep_13 : decode cX10_keep 13 = .ok (.bipush 20, 2) := by decide +kernel
theorem dX10_keep_15 : decode cX10_keep 15 = .ok (.iload_n 1, 1) := by decide +kernel
theorem dX10_keep_16 : decode cX10_keep 16 = .ok (.imul, 1) := by decide +kernel
theorem dX10_keep_17 : decode cX10_keep 17 = .ok (.istore_n 2, 1) := by decide +kernel
theorem dX10_keep_18 : decode cX10_keep 18 = .ok (.iconst 0, 1) := by decide +kernel
theorem dX10_keep_19 : decode cX10_keep 19 = .ok (.istore_n 3, 1) := by decide +kernel
theorem dX10_keep_20 : decode cX10_keep 20 = .ok (.iload_n 3, 1) := by decide +kernel
theorem dX10_keep_21 : decode cX10_keep 21 = .ok (.iconst 5, 1) := by decide +kernel
theorem dX10_keep_22 : decode cX10_keep 22 = .ok (.if_icmp .ge 23, 3) := by decide +kernel
theorem dX10_keep_25 : decode cX10_keep 25 = .ok (.aload_n 0, 1) := by decide +kernel
theorem dX10_keep_26 : decode cX10_keep 26 = .ok (.getfield 66, 3) := by decide +kernel
theorem dX10_keep_29 : decode cX10_keep 29 = .ok (.iload_n 2, 1) := by decide +kernel
theorem dX10_keep_30 : decode cX10_keep 30 = .ok (.iload_n 3, 1) := by decide +kernel
theorem dX10_keep_31 : decode cX10_keep 31 = .ok (.iadd, 1) := by decide +kernel
theorem dX10_keep_32 : decode cX10_keep 32 = .ok (.aload_n 0, 1) := by decide +kernel
theorem dX10_keep_33 : decode cX10_keep 33 = .ok (.getfield 26, 3) := by decide +kernel
theorem dX10_keep_36 : decode cX10_keep 36 = .ok (.iload_n 3, 1) := by decide +kernel
theorem dX10_keep_37 : decode cX10_keep 37 = .ok (.iaload, 1) := by decide +kernel
theorem dX10_keep_38 : decode cX10_keep 38 = .ok (.iastore, 1) := by decide +kernel
theorem dX10_keep_39 : decode cX10_keep 39 = .ok (.iinc 3 1, 3) := by decide +kernel
theorem dX10_keep_42 : decode cX10_keep 42 = .ok (.goto (-22), 3) := by decide +kernel
theorem dX10_keep_45 : decode cX10_keep 45 = .ok (.aload_n 0, 1) := by decide +kernel
theorem dX10_keep_46 : decode cX10_keep 46 = .ok (.getfield 66, 3) := by decide +kernel
theorem dX10_keep_49 : decode cX10_keep 49 = .ok (.iload_n 2, 1) := by decide +kernel
theorem dX10_keep_50 : decode cX10_keep 50 = .ok (.iconst 5, 1) := by decide +kernel
theorem dX10_keep_51 : decode cX10_keep 51 = .ok (.iadd, 1) := by decide +kernel
theorem dX10_keep_52 : decode cX10_keep 52 = .ok (.aload_n 0, 1) := by decide +kernel
theorem dX10_keep_53 : decode cX10_keep 53 = .ok (.getfield 379, 3) := by decide +kernel
theorem dX10_keep_56 : decode cX10_keep 56 = .ok (.iastore, 1) := by decide +kernel
theorem dX10_keep_57 : decode cX10_keep 57 = .ok (.iconst 0, 1) := by decide +kernel
theorem dX10_keep_58 : decode cX10_keep 58 = .ok (.istore_n 3, 1) := by decide +kernel
theorem dX10_keep_59 : decode cX10_keep 59 = .ok (.iload_n 3, 1) := by decide +kernel
theorem dX10_keep_60 : decode cX10_keep 60 = .ok (.bipush 9, 2) := by decide +kernel
theorem dX10_keep_62 : decode cX10_keep 62 = .ok (.if_icmp .ge 26, 3) := by decide +kernel
theorem dX10_keep_65 : decode cX10_keep 65 = .ok (.aload_n 0, 1) := by decide +kernel
theorem dX10_keep_66 : decode cX10_keep 66 = .ok (.getfield 66, 3) := by decide +kernel
theorem dX10_keep_69 : decode cX10_keep 69 = .ok (.iload_n 2, 1) := by decide +kernel
theorem dX10_keep_70 : decode cX10_keep 70 = .ok (.bipush 6, 2) := by decide +kernel
theorem dX10_keep_72 : decode cX10_keep 72 = .ok (.iadd, 1) := by decide +kernel
theorem dX10_keep_73 : decode cX10_keep 73 = .ok (.iload_n 3, 1) := by decide +kernel
theorem dX10_keep_74 : decode cX10_keep 74 = .ok (.iadd, 1) := by decide +kernel
theorem dX10_keep_75 : decode cX10_keep 75 = .ok (.aload_n 0, 1) := by decide +kernel
theorem dX10_keep_76 : decode cX10_keep 76 = .ok (.getfield 63, 3) := by decide +kernel
theorem dX10_keep_79 : decode cX10_keep 79 = .ok (.iload_n 3, 1) := by decide +kernel
theorem dX10_keep_80 : decode cX10_keep 80 = .ok (.iaload, 1) := by decide +kernel
theorem dX10_keep_81 : decode cX10_keep 81 = .ok (.iastore, 1) := by decide +kernel
theorem dX10_keep_82 : decode cX10_keep 82 = .ok (.iinc 3 1, 3) := by decide +kernel
theorem dX10_keep_85 : decode cX10_keep 85 = .ok (.goto (-26), 3) := by decide +kernel
theorem dX10_keep_88 : decode cX10_keep 88 = .ok (.aload_n 0, 1) := by decide +kernel
theorem dX10_keep_89 : decode cX10_keep 89 = .ok (.getfield 69, 3) := by decide +kernel
theorem dX10_keep_92 : decode cX10_keep 92 = .ok (.iload_n 1, 1) := by decide +kernel
theorem dX10_keep_93 : decode cX10_keep 93 = .ok (.iconst 1, 1) := by decide +kernel
theorem dX10_keep_94 : decode cX10_keep 94 = .ok (.bastore, 1) := by decide +kernel
theorem dX10_keep_95 : decode cX10_keep 95 = .ok (.iconst 1, 1) := by decide +kernel
theorem dX10_keep_96 : decode cX10_keep 96 = .ok (.ireturn, 1) := by decide +kernel
theorem dX10_goBack_0 : decode cX10_goBack 0 = .ok (.iload_n 1, 1) := by decide +kernel
theorem dX10_goBack_1 : decode cX10_goBack 1 = .ok (.i2l, 1) := by decide +kernel
theorem dX10_goBack_2 : decode cX10_goBack 2 = .ok (.lconst 0, 1) := by decide +kernel
theorem dX10_goBack_3 : decode cX10_goBack 3 = .ok (.lconst 1, 1) := by decide +kernel
theorem dX10_goBack_4 : decode cX10_goBack 4 = .ok (.invokestatic 81, 3) := by decide +kernel
theorem dX10_goBack_7 : decode cX10_goBack 7 = .ok (.ifCond .ne 6, 3) := by decide +kernel
theorem dX10_goBack_10 : decode cX10_goBack 10 = .ok (.ldc 197, 2) := by decide +kernel
theorem dX10_goBack_12 : decode cX10_goBack 12 = .ok (.ireturn, 1) := by decide +kernel
theorem dX10_goBack_13 : decode cX10_goBack 13 = .ok (.aload_n 0, 1) := by decide +kernel
theorem dX10_goBack_14 : decode cX10_goBack 14 = .ok (.getfield 69, 3) := by decide +kernel
theorem dX10_goBack_17 : decode cX10_goBack 17 = .ok (.iload_n 1, 1) := by decide +kernel
theorem dX10_goBack_18 : decode cX10_goBack 18 = .ok (.baload, 1) := by decide +kernel
theorem dX10_goBack_19 : decode cX10_goBack 19 = .ok (.ifCond .ne 6, 3) := by decide +kernel
theorem dX10_goBack_22 : decode cX10_goBack 22 = .ok (.ldc 188, 2) := by decide +kernel
theorem dX10_goBack_24 : decode cX10_goBack 24 = .ok (.ireturn, 1) := by decide +kernel
theorem dX10_goBack_25 : decode cX10_goBack 25 = .ok (.bipush 20, 2) := by decide +kernel
theorem dX10_goBack_27 : decode cX10_goBack 27 = .ok (.iload_n 1, 1) := by decide +kernel
theorem dX10_goBack_28 : decode cX10_goBack 28 = .ok (.imul, 1) := by decide +kernel
theorem dX10_goBack_29 : decode cX10_goBack 29 = .ok (.istore_n 2, 1) := by decide +kernel
theorem dX10_goBack_30 : decode cX10_goBack 30 = .ok (.iconst 0, 1) := by decide +kernel
theorem dX10_goBack_31 : decode cX10_goBack 31 = .ok (.istore_n 3, 1) := by decide +kernel
theorem dX10_goBack_32 : decode cX10_goBack 32 = .ok (.iload_n 3, 1) := by decide +kernel
theorem dX10_goBack_33 : decode cX10_goBack 33 = .ok (.iconst 5, 1) := by decide +kernel
theorem dX10_goBack_34 : decode cX10_goBack 34 = .ok (.if_icmp .ge 23, 3) := by decide +kernel
theorem dX10_goBack_37 : decode cX10_goBack 37 = .ok (.aload_n 0, 1) := by decide +kernel
theorem dX10_goBack_38 : decode cX10_goBack 38 = .ok (.getfield 26, 3) := by decide +kernel
theorem dX10_goBack_41 : decode cX10_goBack 41 = .ok (.iload_n 3, 1) := by decide +kernel
theorem dX10_goBack_42 : decode cX10_goBack 42 = .ok (.aload_n 0, 1) := by decide +kernel
theorem dX10_goBack_43 : decode cX10_goBack 43 = .ok (.getfield 66, 3) := by decide +kernel
theorem dX10_goBack_46 : decode cX10_goBack 46 = .ok (.iload_n 2, 1) := by decide +kernel
theorem dX10_goBack_47 : decode cX10_goBack 47 = .ok (.iload_n 3, 1) := by decide +kernel
theorem dX10_goBack_48 : decode cX10_goBack 48 = .ok (.iadd, 1) := by decide +kernel
theorem dX10_goBack_49 : decode cX10_goBack 49 = .ok (.iaload, 1) := by decide +kernel
theorem dX10_goBack_50 : decode cX10_goBack 50 = .ok (.iastore, 1) := by decide +kernel
theorem dX10_goBack_51 : decode cX10_goBack 51 = .ok (.iinc 3 1, 3) := by decide +kernel
theorem dX10_goBack_54 : decode cX10_goBack 54 = .ok (.goto (-22), 3) := by decide +kernel
theorem dX10_goBack_57 : decode cX10_goBack 57 = .ok (.aload_n 0, 1) := by decide +kernel
theorem dX10_goBack_58 : decode cX10_goBack 58 = .ok (.getfield 26, 3) := by decide +kernel
theorem dX10_goBack_61 : decode cX10_goBack 61 = .ok (.iconst 1, 1) := by decide +kernel
theorem dX10_goBack_62 : decode cX10_goBack 62 = .ok (.aload_n 0, 1) := by decide +kernel
theorem dX10_goBack_63 : decode cX10_goBack 63 = .ok (.getfield 26, 3) := by decide +kernel
theorem dX10_goBack_66 : decode cX10_goBack 66 = .ok (.iconst 1, 1) := by decide +kernel
theorem dX10_goBack_67 : decode cX10_goBack 67 = .ok (.iaload, 1) := by decide +kernel
theorem dX10_goBack_68 : decode cX10_goBack 68 = .ok (.aload_n 0, 1) := by decide +kernel
theorem dX10_goBack_69 : decode cX10_goBack 69 = .ok (.getfield 7, 3) := by decide +kernel
theorem dX10_goBack_72 : decode cX10_goBack 72 = .ok (.iconst 1, 1) := by decide +kernel
theorem dX10_goBack_73 : decode cX10_goBack 73 = .ok (.iaload, 1) := by decide +kernel
theorem dX10_goBack_74 : decode cX10_goBack 74 = .ok (.bipush 50, 2) := by decide +kernel
theorem dX10_goBack_76 : decode cX10_goBack 76 = .ok (.isub, 1) := by decide +kernel
theorem dX10_goBack_77 : decode cX10_goBack 77 = .ok (.if_icmp .le 15, 3) := by decide +kernel
theorem dX10_goBack_80 : decode cX10_goBack 80 = .ok (.aload_n 0, 1) := by decide +kernel
theorem dX10_goBack_81 : decode cX10_goBack 81 = .ok (.getfield 7, 3) := by decide +kernel
theorem dX10_goBack_84 : decode cX10_goBack 84 = .ok (.iconst 1, 1) := by decide +kernel
theorem dX10_goBack_85 : decode cX10_goBack 85 = .ok (.iaload, 1) := by decide +kernel
theorem dX10_goBack_86 : decode cX10_goBack 86 = .ok (.bipush 50, 2) := by decide +kernel
theorem dX10_goBack_88 : decode cX10_goBack 88 = .ok (.isub, 1) := by decide +kernel
theorem dX10_goBack_89 : decode cX10_goBack 89 = .ok (.goto 9, 3) := by decide +kernel
theorem dX10_goBack_92 : decode cX10_goBack 92 = .ok (.aload_n 0, 1) := by decide +kernel
theorem dX10_goBack_93 : decode cX10_goBack 93 = .ok (.getfield 26, 3) := by decide +kernel
theorem dX10_goBack_96 : decode cX10_goBack 96 = .ok (.iconst 1, 1) := by decide +kernel
theorem dX10_goBack_97 : decode cX10_goBack 97 = .ok (.iaload, 1) := by decide +kernel
theorem dX10_goBack_98 : decode cX10_goBack 98 = .ok (.iastore, 1) := by decide +kernel
theorem dX10_goBack_99 : decode cX10_goBack 99 = .ok (.aload_n 0, 1) := by decide +kernel
theorem dX10_goBack_100 : decode cX10_goBack 100 = .ok (.aload_n 0, 1) := by decide +kernel
theorem dX10_goBack_101 : decode cX10_goBack 101 = .ok (.getfield 66, 3) := by decide +kernel
theorem dX10_goBack_104 : decode cX10_goBack 104 = .ok (.iload_n 2, 1) := by decide +kernel
theorem dX10_goBack_105 : decode cX10_goBack 105 = .ok (.iconst 5, 1) := by decide +kernel
theorem dX10_goBack_106 : decode cX10_goBack 106 = .ok (.iadd, 1) := by decide +kernel
theorem dX10_goBack_107 : decode cX10_goBack 107 = .ok (.iaload, 1) := by decide +kernel
theorem dX10_goBack_108 : decode cX10_goBack 108 = .ok (.putfield 379, 3) := by decide +kernel
theorem dX10_goBack_111 : decode cX10_goBack 111 = .ok (.iconst 0, 1) := by decide +kernel
theorem dX10_goBack_112 : decode cX10_goBack 112 = .ok (.istore_n 3, 1) := by decide +kernel
theorem dX10_goBack_113 : decode cX10_goBack 113 = .ok (.iload_n 3, 1) := by decide +kernel
theorem dX10_goBack_114 : decode cX10_goBack 114 = .ok (.bipush 9, 2) := by decide +kernel
theorem dX10_goBack_116 : decode cX10_goBack 116 = .ok (.if_icmp .ge 26, 3) := by decide +kernel
theorem dX10_goBack_119 : decode cX10_goBack 119 = .ok (.aload_n 0, 1) := by decide +kernel
theorem dX10_goBack_120 : decode cX10_goBack 120 = .ok (.getfield 63, 3) := by decide +kernel
theorem dX10_goBack_123 : decode cX10_goBack 123 = .ok (.iload_n 3, 1) := by decide +kernel
theorem dX10_goBack_124 : decode cX10_goBack 124 = .ok (.aload_n 0, 1) := by decide +kernel
theorem dX10_goBack_125 : decode cX10_goBack 125 = .ok (.getfield 66, 3) := by decide +kernel
theorem dX10_goBack_128 : decode cX10_goBack 128 = .ok (.iload_n 2, 1) := by decide +kernel
theorem dX10_goBack_129 : decode cX10_goBack 129 = .ok (.bipush 6, 2) := by decide +kernel
theorem dX10_goBack_131 : decode cX10_goBack 131 = .ok (.iadd, 1) := by decide +kernel
theorem dX10_goBack_132 : decode cX10_goBack 132 = .ok (.iload_n 3, 1) := by decide +kernel
theorem dX10_goBack_133 : decode cX10_goBack 133 = .ok (.iadd, 1) := by decide +kernel
theorem dX10_goBack_134 : decode cX10_goBack 134 = .ok (.iaload, 1) := by decide +kernel
theorem dX10_goBack_135 : decode cX10_goBack 135 = .ok (.iastore, 1) := by decide +kernel
theorem dX10_goBack_136 : decode cX10_goBack 136 = .ok (.iinc 3 1, 3) := by decide +kernel
theorem dX10_goBack_139 : decode cX10_goBack 139 = .ok (.goto (-26), 3) := by decide +kernel
theorem dX10_goBack_142 : decode cX10_goBack 142 = .ok (.iconst 1, 1) := by decide +kernel
theorem dX10_goBack_143 : decode cX10_goBack 143 = .ok (.ireturn, 1) := by decide +kernel
theorem dJ6_bitCount_0f7a4_0 : decode cJ6_bitCount_0f7a4 0 = .ok (.iload_n 0, 1) := by decide +kernel
theorem dJ6_bitCount_0f7a4_1 : decode cJ6_bitCount_0f7a4 1 = .ok (.iload_n 0, 1) := by decide +kernel
theorem dJ6_bitCount_0f7a4_2 : decode cJ6_bitCount_0f7a4 2 = .ok (.iconst 1, 1) := by decide +kernel
theorem dJ6_bitCount_0f7a4_3 : decode cJ6_bitCount_0f7a4 3 = .ok (.iushr, 1) := by decide +kernel
theorem dJ6_bitCount_0f7a4_4 : decode cJ6_bitCount_0f7a4 4 = .ok (.ldc_w 265, 3) := by decide +kernel
theorem dJ6_bitCount_0f7a4_7 : decode cJ6_bitCount_0f7a4 7 = .ok (.iand, 1) := by decide +kernel
theorem dJ6_bitCount_0f7a4_8 : decode cJ6_bitCount_0f7a4 8 = .ok (.isub, 1) := by decide +kernel
theorem dJ6_bitCount_0f7a4_9 : decode cJ6_bitCount_0f7a4 9 = .ok (.istore_n 0, 1) := by decide +kernel
theorem dJ6_bitCount_0f7a4_10 : decode cJ6_bitCount_0f7a4 10 = .ok (.iload_n 0, 1) := by decide +kernel
theorem dJ6_bitCount_0f7a4_11 : decode cJ6_bitCount_0f7a4 11 = .ok (.ldc_w 266, 3) := by decide +kernel
theorem dJ6_bitCount_0f7a4_14 : decode cJ6_bitCount_0f7a4 14 = .ok (.iand, 1) := by decide +kernel
theorem dJ6_bitCount_0f7a4_15 : decode cJ6_bitCount_0f7a4 15 = .ok (.iload_n 0, 1) := by decide +kernel
theorem dJ6_bitCount_0f7a4_16 : decode cJ6_bitCount_0f7a4 16 = .ok (.iconst 2, 1) := by decide +kernel
theorem dJ6_bitCount_0f7a4_17 : decode cJ6_bitCount_0f7a4 17 = .ok (.iushr, 1) := by decide +kernel
theorem dJ6_bitCount_0f7a4_18 : decode cJ6_bitCount_0f7a4 18 = .ok (.ldc_w 266, 3) := by decide +kernel
theorem dJ6_bitCount_0f7a4_21 : decode cJ6_bitCount_0f7a4 21 = .ok (.iand, 1) := by decide +kernel
theorem dJ6_bitCount_0f7a4_22 : decode cJ6_bitCount_0f7a4 22 = .ok (.iadd, 1) := by decide +kernel
theorem dJ6_bitCount_0f7a4_23 : decode cJ6_bitCount_0f7a4 23 = .ok (.istore_n 0, 1) := by decide +kernel
theorem dJ6_bitCount_0f7a4_24 : decode cJ6_bitCount_0f7a4 24 = .ok (.iload_n 0, 1) := by decide +kernel
theorem dJ6_bitCount_0f7a4_25 : decode cJ6_bitCount_0f7a4 25 = .ok (.iload_n 0, 1) := by decide +kernel
theorem dJ6_bitCount_0f7a4_26 : decode cJ6_bitCount_0f7a4 26 = .ok (.iconst 4, 1) := by decide +kernel
theorem dJ6_bitCount_0f7a4_27 : decode cJ6_bitCount_0f7a4 27 = .ok (.iushr, 1) := by decide +kernel
theorem dJ6_bitCount_0f7a4_28 : decode cJ6_bitCount_0f7a4 28 = .ok (.iadd, 1) := by decide +kernel
theorem dJ6_bitCount_0f7a4_29 : decode cJ6_bitCount_0f7a4 29 = .ok (.ldc_w 267, 3) := by decide +kernel
theorem dJ6_bitCount_0f7a4_32 : decode cJ6_bitCount_0f7a4 32 = .ok (.iand, 1) := by decide +kernel
theorem dJ6_bitCount_0f7a4_33 : decode cJ6_bitCount_0f7a4 33 = .ok (.istore_n 0, 1) := by decide +kernel
theorem dJ6_bitCount_0f7a4_34 : decode cJ6_bitCount_0f7a4 34 = .ok (.iload_n 0, 1) := by decide +kernel
theorem dJ6_bitCount_0f7a4_35 : decode cJ6_bitCount_0f7a4 35 = .ok (.iload_n 0, 1) := by decide +kernel
theorem dJ6_bitCount_0f7a4_36 : decode cJ6_bitCount_0f7a4 36 = .ok (.bipush 8, 2) := by decide +kernel
theorem dJ6_bitCount_0f7a4_38 : decode cJ6_bitCount_0f7a4 38 = .ok (.iushr, 1) := by decide +kernel
theorem dJ6_bitCount_0f7a4_39 : decode cJ6_bitCount_0f7a4 39 = .ok (.iadd, 1) := by decide +kernel
theorem dJ6_bitCount_0f7a4_40 : decode cJ6_bitCount_0f7a4 40 = .ok (.istore_n 0, 1) := by decide +kernel
theorem dJ6_bitCount_0f7a4_41 : decode cJ6_bitCount_0f7a4 41 = .ok (.iload_n 0, 1) := by decide +kernel
theorem dJ6_bitCount_0f7a4_42 : decode cJ6_bitCount_0f7a4 42 = .ok (.iload_n 0, 1) := by decide +kernel
theorem dJ6_bitCount_0f7a4_43 : decode cJ6_bitCount_0f7a4 43 = .ok (.bipush 16, 2) := by decide +kernel
theorem dJ6_bitCount_0f7a4_45 : decode cJ6_bitCount_0f7a4 45 = .ok (.iushr, 1) := by decide +kernel
theorem dJ6_bitCount_0f7a4_46 : decode cJ6_bitCount_0f7a4 46 = .ok (.iadd, 1) := by decide +kernel
theorem dJ6_bitCount_0f7a4_47 : decode cJ6_bitCount_0f7a4 47 = .ok (.istore_n 0, 1) := by decide +kernel
theorem dJ6_bitCount_0f7a4_48 : decode cJ6_bitCount_0f7a4 48 = .ok (.iload_n 0, 1) := by decide +kernel
theorem dJ6_bitCount_0f7a4_49 : decode cJ6_bitCount_0f7a4 49 = .ok (.bipush 63, 2) := by decide +kernel
theorem dJ6_bitCount_0f7a4_51 : decode cJ6_bitCount_0f7a4 51 = .ok (.iand, 1) := by decide +kernel
theorem dJ6_bitCount_0f7a4_52 : decode cJ6_bitCount_0f7a4 52 = .ok (.ireturn, 1) := by decide +kernel
theorem dJ9_abs_0f7a4_0 : decode cJ9_abs_0f7a4 0 = .ok (.iload_n 0, 1) := by decide +kernel
theorem dJ9_abs_0f7a4_1 : decode cJ9_abs_0f7a4 1 = .ok (.ifCond .ge 8, 3) := by decide +kernel
theorem dJ9_abs_0f7a4_4 : decode cJ9_abs_0f7a4 4 = .ok (.iload_n 0, 1) := by decide +kernel
theorem dJ9_abs_0f7a4_5 : decode cJ9_abs_0f7a4 5 = .ok (.ineg, 1) := by decide +kernel
theorem dJ9_abs_0f7a4_6 : decode cJ9_abs_0f7a4 6 = .ok (.goto 4, 3) := by decide +kernel
theorem dJ9_abs_0f7a4_9 : decode cJ9_abs_0f7a4 9 = .ok (.iload_n 0, 1) := by decide +kernel
theorem dJ9_abs_0f7a4_10 : decode cJ9_abs_0f7a4 10 = .ok (.ireturn, 1) := by decide +kernel
theorem dJ9_max_7cf53_0 : decode cJ9_max_7cf53 0 = .ok (.iload_n 0, 1) := by decide +kernel
theorem dJ9_max_7cf53_1 : decode cJ9_max_7cf53 1 = .ok (.iload_n 1, 1) := by decide +kernel
theorem dJ9_max_7cf53_2 : decode cJ9_max_7cf53 2 = .ok (.if_icmp .lt 7, 3) := by decide +kernel
theorem dJ9_max_7cf53_5 : decode cJ9_max_7cf53 5 = .ok (.iload_n 0, 1) := by decide +kernel
theorem dJ9_max_7cf53_6 : decode cJ9_max_7cf53 6 = .ok (.goto 4, 3) := by decide +kernel
theorem dJ9_max_7cf53_9 : decode cJ9_max_7cf53 9 = .ok (.iload_n 1, 1) := by decide +kernel
theorem dJ9_max_7cf53_10 : decode cJ9_max_7cf53 10 = .ok (.ireturn, 1) := by decide +kernel
theorem dJ9_min_7cf53_0 : decode cJ9_min_7cf53 0 = .ok (.iload_n 0, 1) := by decide +kernel
theorem dJ9_min_7cf53_1 : decode cJ9_min_7cf53 1 = .ok (.iload_n 1, 1) := by decide +kernel
theorem dJ9_min_7cf53_2 : decode cJ9_min_7cf53 2 = .ok (.if_icmp .gt 7, 3) := by decide +kernel
theorem dJ9_min_7cf53_5 : decode cJ9_min_7cf53 5 = .ok (.iload_n 0, 1) := by decide +kernel
theorem dJ9_min_7cf53_6 : decode cJ9_min_7cf53 6 = .ok (.goto 4, 3) := by decide +kernel
theorem dJ9_min_7cf53_9 : decode cJ9_min_7cf53 9 = .ok (.iload_n 1, 1) := by decide +kernel
theorem dJ9_min_7cf53_10 : decode cJ9_min_7cf53 10 = .ok (.ireturn, 1) := by decide +kernel
theorem dJ0_length_8abf5_0 : decode cJ0_length_8abf5 0 = .ok (.aload_n 0, 1) := by decide +kernel
theorem dJ0_length_8abf5_1 : decode cJ0_length_8abf5 1 = .ok (.getfield 9, 3) := by decide +kernel
theorem dJ0_length_8abf5_4 : decode cJ0_length_8abf5 4 = .ok (.arraylength, 1) := by decide +kernel
theorem dJ0_length_8abf5_5 : decode cJ0_length_8abf5 5 = .ok (.aload_n 0, 1) := by decide +kernel
theorem dJ0_length_8abf5_6 : decode cJ0_length_8abf5 6 = .ok (.invokevirtual 335, 3) := by decide +kernel
theorem dJ0_length_8abf5_9 : decode cJ0_length_8abf5 9 = .ok (.ishr, 1) := by decide +kernel
theorem dJ0_length_8abf5_10 : decode cJ0_length_8abf5 10 = .ok (.ireturn, 1) := by decide +kernel
theorem dJ0_charAt_5068e_0 : decode cJ0_charAt_5068e 0 = .ok (.aload_n 0, 1) := by decide +kernel
theorem dJ0_charAt_5068e_1 : decode cJ0_charAt_5068e 1 = .ok (.invokevirtual 492, 3) := by decide +kernel
theorem dJ0_charAt_5068e_4 : decode cJ0_charAt_5068e 4 = .ok (.ifCond .eq 12, 3) := by decide +kernel
theorem dJ0_charAt_5068e_7 : decode cJ0_charAt_5068e 7 = .ok (.aload_n 0, 1) := by decide +kernel
theorem dJ0_charAt_5068e_8 : decode cJ0_charAt_5068e 8 = .ok (.getfield 9, 3) := by decide +kernel
theorem dJ0_charAt_5068e_11 : decode cJ0_charAt_5068e 11 = .ok (.iload_n 1, 1) := by decide +kernel
theorem dJ0_charAt_5068e_12 : decode cJ0_charAt_5068e 12 = .ok (.invokestatic 495, 3) := by decide +kernel
theorem dJ0_charAt_5068e_15 : decode cJ0_charAt_5068e 15 = .ok (.ireturn, 1) := by decide +kernel
theorem dJ0_charAt_5068e_16 : decode cJ0_charAt_5068e 16 = .ok (.aload_n 0, 1) := by decide +kernel
theorem dJ0_charAt_5068e_17 : decode cJ0_charAt_5068e 17 = .ok (.getfield 9, 3) := by decide +kernel
theorem dJ0_charAt_5068e_20 : decode cJ0_charAt_5068e 20 = .ok (.iload_n 1, 1) := by decide +kernel
theorem dJ0_charAt_5068e_21 : decode cJ0_charAt_5068e 21 = .ok (.invokestatic 498, 3) := by decide +kernel
theorem dJ0_charAt_5068e_24 : decode cJ0_charAt_5068e 24 = .ok (.ireturn, 1) := by decide +kernel
theorem dJ0_coder_7d493_0 : decode cJ0_coder_7d493 0 = .ok (.getstatic 38, 3) := by decide +kernel
theorem dJ0_coder_7d493_3 : decode cJ0_coder_7d493 3 = .ok (.ifCond .eq 10, 3) := by decide +kernel
theorem dJ0_coder_7d493_6 : decode cJ0_coder_7d493 6 = .ok (.aload_n 0, 1) := by decide +kernel
theorem dJ0_coder_7d493_7 : decode cJ0_coder_7d493 7 = .ok (.getfield 15, 3) := by decide +kernel
theorem dJ0_coder_7d493_10 : decode cJ0_coder_7d493 10 = .ok (.goto 4, 3) := by decide +kernel
theorem dJ0_coder_7d493_13 : decode cJ0_coder_7d493 13 = .ok (.iconst 1, 1) := by decide +kernel
theorem dJ0_coder_7d493_14 : decode cJ0_coder_7d493 14 = .ok (.ireturn, 1) := by decide +kernel
theorem dJ0_isLatin1_aae02_0 : decode cJ0_isLatin1_aae02 0 = .ok (.getstatic 38, 3) := by decide +kernel
theorem dJ0_isLatin1_aae02_3 : decode cJ0_isLatin1_aae02 3 = .ok (.ifCond .eq 14, 3) := by decide +kernel
theorem dJ0_isLatin1_aae02_6 : decode cJ0_isLatin1_aae02 6 = .ok (.aload_n 0, 1) := by decide +kernel
theorem dJ0_isLatin1_aae02_7 : decode cJ0_isLatin1_aae02 7 = .ok (.getfield 15, 3) := by decide +kernel
theorem dJ0_isLatin1_aae02_10 : decode cJ0_isLatin1_aae02 10 = .ok (.ifCond .ne 7, 3) := by decide +kernel
theorem dJ0_isLatin1_aae02_13 : decode cJ0_isLatin1_aae02 13 = .ok (.iconst 1, 1) := by decide +kernel
theorem dJ0_isLatin1_aae02_14 : decode cJ0_isLatin1_aae02 14 = .ok (.goto 4, 3) := by decide +kernel
theorem dJ0_isLatin1_aae02_17 : decode cJ0_isLatin1_aae02 17 = .ok (.iconst 0, 1) := by decide +kernel
theorem dJ0_isLatin1_aae02_18 : decode cJ0_isLatin1_aae02 18 = .ok (.ireturn, 1) := by decide +kernel
theorem dJ0_checkIndex_df160_0 : decode cJ0_checkIndex_df160 0 = .ok (.iload_n 0, 1) := by decide +kernel
theorem dJ0_checkIndex_df160_1 : decode cJ0_checkIndex_df160 1 = .ok (.iload_n 1, 1) := by decide +kernel
theorem dJ0_checkIndex_df160_2 : decode cJ0_checkIndex_df160 2 = .ok (.getstatic 1053, 3) := by decide +kernel
theorem dJ0_checkIndex_df160_5 : decode cJ0_checkIndex_df160 5 = .ok (.invokestatic 1059, 3) := by decide +kernel
theorem dJ0_checkIndex_df160_8 : decode cJ0_checkIndex_df160 8 = .ok (.pop, 1) := by decide +kernel
theorem dJ0_checkIndex_df160_9 : decode cJ0_checkIndex_df160 9 = .ok (.return_, 1) := by decide +kernel
theorem dJ1_charAt_3b067_0 : decode cJ1_charAt_3b067 0 = .ok (.iload_n 1, 1) := by decide +kernel
theorem dJ1_charAt_3b067_1 : decode cJ1_charAt_3b067 1 = .ok (.aload_n 0, 1) := by decide +kernel
theorem dJ1_charAt_3b067_2 : decode cJ1_charAt_3b067 2 = .ok (.arraylength, 1) := by decide +kernel
theorem dJ1_charAt_3b067_3 : decode cJ1_charAt_3b067 3 = .ok (.invokestatic 9, 3) := by decide +kernel
theorem dJ1_charAt_3b067_6 : decode cJ1_charAt_3b067 6 = .ok (.aload_n 0, 1) := by decide +kernel
theorem dJ1_charAt_3b067_7 : decode cJ1_charAt_3b067 7 = .ok (.iload_n 1, 1) := by decide +kernel
theorem dJ1_charAt_3b067_8 : decode cJ1_charAt_3b067 8 = .ok (.baload, 1) := by decide +kernel
theorem dJ1_charAt_3b067_9 : decode cJ1_charAt_3b067 9 = .ok (.sipush 255, 3) := by decide +kernel
theorem dJ1_charAt_3b067_12 : decode cJ1_charAt_3b067 12 = .ok (.iand, 1) := by decide +kernel
theorem dJ1_charAt_3b067_13 : decode cJ1_charAt_3b067 13 = .ok (.i2c, 1) := by decide +kernel
theorem dJ1_charAt_3b067_14 : decode cJ1_charAt_3b067 14 = .ok (.ireturn, 1) := by decide +kernel
theorem dJ2_getChar_3b067_0 : decode cJ2_getChar_3b067 0 = .ok (.getstatic 44, 3) := by decide +kernel
theorem dJ2_getChar_3b067_3 : decode cJ2_getChar_3b067 3 = .ok (.ifCond .ne 25, 3) := by decide +kernel
theorem dJ2_getChar_3b067_6 : decode cJ2_getChar_3b067 6 = .ok (.iload_n 1, 1) := by decide +kernel
theorem dJ2_getChar_3b067_7 : decode cJ2_getChar_3b067 7 = .ok (.ifCond .lt 11, 3) := by decide +kernel
theorem dJ2_getChar_3b067_10 : decode cJ2_getChar_3b067 10 = .ok (.iload_n 1, 1) := by decide +kernel
theorem dJ2_getChar_3b067_11 : decode cJ2_getChar_3b067 11 = .ok (.aload_n 0, 1) := by decide +kernel
theorem dJ2_getChar_3b067_12 : decode cJ2_getChar_3b067 12 = .ok (.invokestatic 48, 3) := by decide +kernel
theorem dJ2_getChar_3b067_15 : decode cJ2_getChar_3b067 15 = .ok (.if_icmp .lt 13, 3) := by decide +kernel
theorem dJ2_getChar_3b067_18 : decode cJ2_getChar_3b067 18 = .ok (.new 52, 3) := by decide +kernel
theorem dJ2_getChar_3b067_21 : decode cJ2_getChar_3b067 21 = .ok (.dup, 1) := by decide +kernel
theorem dJ2_getChar_3b067_22 : decode cJ2_getChar_3b067 22 = .ok (.ldc 54, 2) := by decide +kernel
theorem dJ2_getChar_3b067_24 : decode cJ2_getChar_3b067 24 = .ok (.invokespecial 56, 3) := by decide +kernel
theorem dJ2_getChar_3b067_27 : decode cJ2_getChar_3b067 27 = .ok (.athrow, 1) := by decide +kernel
theorem dJ2_getChar_3b067_28 : decode cJ2_getChar_3b067 28 = .ok (.iload_n 1, 1) := by decide +kernel
theorem dJ2_getChar_3b067_29 : decode cJ2_getChar_3b067 29 = .ok (.iconst 1, 1) := by decide +kernel
theorem dJ2_getChar_3b067_30 : decode cJ2_getChar_3b067 30 = .ok (.ishl, 1) := by decide +kernel
theorem dJ2_getChar_3b067_31 : decode cJ2_getChar_3b067 31 = .ok (.istore_n 1, 1) := by decide +kernel
theorem dJ2_getChar_3b067_32 : decode cJ2_getChar_3b067 32 = .ok (.aload_n 0, 1) := by decide +kernel
theorem dJ2_getChar_3b067_33 : decode cJ2_getChar_3b067 33 = .ok (.iload_n 1, 1) := by decide +kernel
theorem dJ2_getChar_3b067_34 : decode cJ2_getChar_3b067 34 = .ok (.iinc 1 1, 3) := by decide +kernel
theorem dJ2_getChar_3b067_37 : decode cJ2_getChar_3b067 37 = .ok (.baload, 1) := by decide +kernel
theorem dJ2_getChar_3b067_38 : decode cJ2_getChar_3b067 38 = .ok (.sipush 255, 3) := by decide +kernel
theorem dJ2_getChar_3b067_41 : decode cJ2_getChar_3b067 41 = .ok (.iand, 1) := by decide +kernel
theorem dJ2_getChar_3b067_42 : decode cJ2_getChar_3b067 42 = .ok (.getstatic 59, 3) := by decide +kernel
theorem dJ2_getChar_3b067_45 : decode cJ2_getChar_3b067 45 = .ok (.ishl, 1) := by decide +kernel
theorem dJ2_getChar_3b067_46 : decode cJ2_getChar_3b067 46 = .ok (.aload_n 0, 1) := by decide +kernel
theorem dJ2_getChar_3b067_47 : decode cJ2_getChar_3b067 47 = .ok (.iload_n 1, 1) := by decide +kernel
theorem dJ2_getChar_3b067_48 : decode cJ2_getChar_3b067 48 = .ok (.baload, 1) := by decide +kernel
theorem dJ2_getChar_3b067_49 : decode cJ2_getChar_3b067 49 = .ok (.sipush 255, 3) := by decide +kernel
theorem dJ2_getChar_3b067_52 : decode cJ2_getChar_3b067 52 = .ok (.iand, 1) := by decide +kernel
theorem dJ2_getChar_3b067_53 : decode cJ2_getChar_3b067 53 = .ok (.getstatic 63, 3) := by decide +kernel
theorem dJ2_getChar_3b067_56 : decode cJ2_getChar_3b067 56 = .ok (.ishl, 1) := by decide +kernel
theorem dJ2_getChar_3b067_57 : decode cJ2_getChar_3b067 57 = .ok (.ior, 1) := by decide +kernel
theorem dJ2_getChar_3b067_58 : decode cJ2_getChar_3b067 58 = .ok (.i2c, 1) := by decide +kernel
theorem dJ2_getChar_3b067_59 : decode cJ2_getChar_3b067 59 = .ok (.ireturn, 1) := by decide +kernel
theorem dJ2_length_9d52b_0 : decode cJ2_length_9d52b 0 = .ok (.aload_n 0, 1) := by decide +kernel
theorem dJ2_length_9d52b_1 : decode cJ2_length_9d52b 1 = .ok (.arraylength, 1) := by decide +kernel
theorem dJ2_length_9d52b_2 : decode cJ2_length_9d52b 2 = .ok (.iconst 1, 1) := by decide +kernel
theorem dJ2_length_9d52b_3 : decode cJ2_length_9d52b 3 = .ok (.ishr, 1) := by decide +kernel
theorem dJ2_length_9d52b_4 : decode cJ2_length_9d52b 4 = .ok (.ireturn, 1) := by decide +kernel
theorem dJ2_charAt_3b067_0 : decode cJ2_charAt_3b067 0 = .ok (.iload_n 1, 1) := by decide +kernel
theorem dJ2_charAt_3b067_1 : decode cJ2_charAt_3b067 1 = .ok (.aload_n 0, 1) := by decide +kernel
theorem dJ2_charAt_3b067_2 : decode cJ2_charAt_3b067 2 = .ok (.invokestatic 67, 3) := by decide +kernel
theorem dJ2_charAt_3b067_5 : decode cJ2_charAt_3b067 5 = .ok (.aload_n 0, 1) := by decide +kernel
theorem dJ2_charAt_3b067_6 : decode cJ2_charAt_3b067 6 = .ok (.iload_n 1, 1) := by decide +kernel
theorem dJ2_charAt_3b067_7 : decode cJ2_charAt_3b067 7 = .ok (.invokestatic 71, 3) := by decide +kernel
theorem dJ2_charAt_3b067_10 : decode cJ2_charAt_3b067 10 = .ok (.ireturn, 1) := by decide +kernel
theorem dJ2_checkIndex_2214a_0 : decode cJ2_checkIndex_2214a 0 = .ok (.iload_n 0, 1) := by decide +kernel
theorem dJ2_checkIndex_2214a_1 : decode cJ2_checkIndex_2214a 1 = .ok (.aload_n 1, 1) := by decide +kernel
theorem dJ2_checkIndex_2214a_2 : decode cJ2_checkIndex_2214a 2 = .ok (.invokestatic 48, 3) := by decide +kernel
theorem dJ2_checkIndex_2214a_5 : decode cJ2_checkIndex_2214a 5 = .ok (.invokestatic 414, 3) := by decide +kernel
theorem dJ2_checkIndex_2214a_8 : decode cJ2_checkIndex_2214a 8 = .ok (.return_, 1) := by decide +kernel
theorem dJ7_fill_53178_0 : decode cJ7_fill_53178 0 = .ok (.iconst 0, 1) := by decide +kernel
theorem dJ7_fill_53178_1 : decode cJ7_fill_53178 1 = .ok (.istore_n 2, 1) := by decide +kernel
theorem dJ7_fill_53178_2 : decode cJ7_fill_53178 2 = .ok (.aload_n 0, 1) := by decide +kernel
theorem dJ7_fill_53178_3 : decode cJ7_fill_53178 3 = .ok (.arraylength, 1) := by decide +kernel
theorem dJ7_fill_53178_4 : decode cJ7_fill_53178 4 = .ok (.istore_n 3, 1) := by decide +kernel
theorem dJ7_fill_53178_5 : decode cJ7_fill_53178 5 = .ok (.iload_n 2, 1) := by decide +kernel
theorem dJ7_fill_53178_6 : decode cJ7_fill_53178 6 = .ok (.iload_n 3, 1) := by decide +kernel
theorem dJ7_fill_53178_7 : decode cJ7_fill_53178 7 = .ok (.if_icmp .ge 13, 3) := by decide +kernel
theorem dJ7_fill_53178_10 : decode cJ7_fill_53178 10 = .ok (.aload_n 0, 1) := by decide +kernel
theorem dJ7_fill_53178_11 : decode cJ7_fill_53178 11 = .ok (.iload_n 2, 1) := by decide +kernel
theorem dJ7_fill_53178_12 : decode cJ7_fill_53178 12 = .ok (.iload_n 1, 1) := by decide +kernel
theorem dJ7_fill_53178_13 : decode cJ7_fill_53178 13 = .ok (.iastore, 1) := by decide +kernel
theorem dJ7_fill_53178_14 : decode cJ7_fill_53178 14 = .ok (.iinc 2 1, 3) := by decide +kernel
theorem dJ7_fill_53178_17 : decode cJ7_fill_53178 17 = .ok (.goto (-12), 3) := by decide +kernel
theorem dJ7_fill_53178_20 : decode cJ7_fill_53178 20 = .ok (.return_, 1) := by decide +kernel
theorem dJ3_checkIndex_8e157_0 : decode cJ3_checkIndex_8e157 0 = .ok (.iload_n 0, 1) := by decide +kernel
theorem dJ3_checkIndex_8e157_1 : decode cJ3_checkIndex_8e157 1 = .ok (.ifCond .lt 8, 3) := by decide +kernel
theorem dJ3_checkIndex_8e157_4 : decode cJ3_checkIndex_8e157 4 = .ok (.iload_n 0, 1) := by decide +kernel
theorem dJ3_checkIndex_8e157_5 : decode cJ3_checkIndex_8e157 5 = .ok (.iload_n 1, 1) := by decide +kernel
theorem dJ3_checkIndex_8e157_6 : decode cJ3_checkIndex_8e157 6 = .ok (.if_icmp .lt 10, 3) := by decide +kernel
theorem dJ3_checkIndex_8e157_9 : decode cJ3_checkIndex_8e157 9 = .ok (.aload_n 2, 1) := by decide +kernel
theorem dJ3_checkIndex_8e157_10 : decode cJ3_checkIndex_8e157 10 = .ok (.iload_n 0, 1) := by decide +kernel
theorem dJ3_checkIndex_8e157_11 : decode cJ3_checkIndex_8e157 11 = .ok (.iload_n 1, 1) := by decide +kernel
theorem dJ3_checkIndex_8e157_12 : decode cJ3_checkIndex_8e157 12 = .ok (.invokestatic 95, 3) := by decide +kernel
theorem dJ3_checkIndex_8e157_15 : decode cJ3_checkIndex_8e157 15 = .ok (.athrow, 1) := by decide +kernel
theorem dJ3_checkIndex_8e157_16 : decode cJ3_checkIndex_8e157 16 = .ok (.iload_n 0, 1) := by decide +kernel
theorem dJ3_checkIndex_8e157_17 : decode cJ3_checkIndex_8e157 17 = .ok (.ireturn, 1) := by decide +kernel
theorem dL_law_0 : decode cL_law 0 = .ok (.new 7, 3) := by decide +kernel
theorem dL_law_3 : decode cL_law 3 = .ok (.dup, 1) := by decide +kernel
theorem dL_law_4 : decode cL_law 4 = .ok (.invokespecial 9, 3) := by decide +kernel
theorem dL_law_7 : decode cL_law 7 = .ok (.astore_n 1, 1) := by decide +kernel
theorem dL_law_8 : decode cL_law 8 = .ok (.new 10, 3) := by decide +kernel
theorem dL_law_11 : decode cL_law 11 = .ok (.dup, 1) := by decide +kernel
theorem dL_law_12 : decode cL_law 12 = .ok (.invokespecial 12, 3) := by decide +kernel
theorem dL_law_15 : decode cL_law 15 = .ok (.astore_n 2, 1) := by decide +kernel
theorem dL_law_16 : decode cL_law 16 = .ok (.iconst 0, 1) := by decide +kernel
theorem dL_law_17 : decode cL_law 17 = .ok (.istore_n 3, 1) := by decide +kernel
theorem dL_law_18 : decode cL_law 18 = .ok (.iload_n 3, 1) := by decide +kernel
theorem dL_law_19 : decode cL_law 19 = .ok (.aload_n 0, 1) := by decide +kernel
theorem dL_law_20 : decode cL_law 20 = .ok (.arraylength, 1) := by decide +kernel
theorem dL_law_21 : decode cL_law 21 = .ok (.iconst 4, 1) := by decide +kernel
theorem dL_law_22 : decode cL_law 22 = .ok (.isub, 1) := by decide +kernel
theorem dL_law_23 : decode cL_law 23 = .ok (.if_icmp .gt 971, 3) := by decide +kernel
theorem dL_law_26 : decode cL_law 26 = .ok (.aload_n 0, 1) := by decide +kernel
theorem dL_law_27 : decode cL_law 27 = .ok (.iload_n 3, 1) := by decide +kernel
theorem dL_law_28 : decode cL_law 28 = .ok (.iaload, 1) := by decide +kernel
theorem dL_law_29 : decode cL_law 29 = .ok (.bipush 31, 2) := by decide +kernel
theorem dL_law_31 : decode cL_law 31 = .ok (.iand, 1) := by decide +kernel
theorem dL_law_32 : decode cL_law 32 = .ok (.tableswitch 956 0 29 #[136, 199, 212, 225, 238, 261, 294, 327, 360, 383, 406, 449, 492, 525, 558, 601, 634, 647, 660, 683, 716, 749, 782, 805, 828, 841, 864, 887, 910, 933], 136) := by decide +kernel
theorem dL_law_168 : decode cL_law 168 = .ok (.aload_n 1, 1) := by decide +kernel
theorem dL_law_169 : decode cL_law 169 = .ok (.aload_n 0, 1) := by decide +kernel
theorem dL_law_170 : decode cL_law 170 = .ok (.iload_n 3, 1) := by decide +kernel
theorem dL_law_171 : decode cL_law 171 = .ok (.iconst 1, 1) := by decide +kernel
theorem dL_law_172 : decode cL_law 172 = .ok (.iadd, 1) := by decide +kernel
theorem dL_law_173 : decode cL_law 173 = .ok (.iaload, 1) := by decide +kernel
theorem dL_law_174 : decode cL_law 174 = .ok (.aload_n 0, 1) := by decide +kernel
theorem dL_law_175 : decode cL_law 175 = .ok (.iload_n 3, 1) := by decide +kernel
theorem dL_law_176 : decode cL_law 176 = .ok (.iconst 2, 1) := by decide +kernel
theorem dL_law_177 : decode cL_law 177 = .ok (.iadd, 1) := by decide +kernel
theorem dL_law_178 : decode cL_law 178 = .ok (.iaload, 1) := by decide +kernel
theorem dL_law_179 : decode cL_law 179 = .ok (.i2l, 1) := by decide +kernel
theorem dL_law_180 : decode cL_law 180 = .ok (.bipush 32, 2) := by decide +kernel
theorem dL_law_182 : decode cL_law 182 = .ok (.lshl, 1) := by decide +kernel
theorem dL_law_183 : decode cL_law 183 = .ok (.aload_n 0, 1) := by decide +kernel
theorem dL_law_184 : decode cL_law 184 = .ok (.iload_n 3, 1) := by decide +kernel
theorem dL_law_185 : decode cL_law 185 = .ok (.iconst 3, 1) := by decide +kernel
theorem dL_law_186 : decode cL_law 186 = .ok (.iadd, 1) := by decide +kernel
theorem dL_law_187 : decode cL_law 187 = .ok (.iaload, 1) := by decide +kernel
theorem dL_law_188 : decode cL_law 188 = .ok (.i2l, 1) := by decide +kernel
theorem dL_law_189 : decode cL_law 189 = .ok (.ldc2_w 13, 3) := by decide +kernel
theorem dL_law_192 : decode cL_law 192 = .ok (.land, 1) := by decide +kernel
theorem dL_law_193 : decode cL_law 193 = .ok (.lor, 1) := by decide +kernel
theorem dL_law_194 : decode cL_law 194 = .ok (.invokevirtual 15, 3) := by decide +kernel
theorem dL_law_197 : decode cL_law 197 = .ok (.aload_n 2, 1) := by decide +kernel
theorem dL_law_198 : decode cL_law 198 = .ok (.aload_n 0, 1) := by decide +kernel
theorem dL_law_199 : decode cL_law 199 = .ok (.iload_n 3, 1) := by decide +kernel
theorem dL_law_200 : decode cL_law 200 = .ok (.iconst 1, 1) := by decide +kernel
theorem dL_law_201 : decode cL_law 201 = .ok (.iadd, 1) := by decide +kernel
theorem dL_law_202 : decode cL_law 202 = .ok (.iaload, 1) := by decide +kernel
theorem dL_law_203 : decode cL_law 203 = .ok (.aload_n 0, 1) := by decide +kernel
theorem dL_law_204 : decode cL_law 204 = .ok (.iload_n 3, 1) := by decide +kernel
theorem dL_law_205 : decode cL_law 205 = .ok (.iconst 2, 1) := by decide +kernel
theorem dL_law_206 : decode cL_law 206 = .ok (.iadd, 1) := by decide +kernel
theorem dL_law_207 : decode cL_law 207 = .ok (.iaload, 1) := by decide +kernel
theorem dL_law_208 : decode cL_law 208 = .ok (.i2l, 1) := by decide +kernel
theorem dL_law_209 : decode cL_law 209 = .ok (.bipush 32, 2) := by decide +kernel
theorem dL_law_211 : decode cL_law 211 = .ok (.lshl, 1) := by decide +kernel
theorem dL_law_212 : decode cL_law 212 = .ok (.aload_n 0, 1) := by decide +kernel
theorem dL_law_213 : decode cL_law 213 = .ok (.iload_n 3, 1) := by decide +kernel
theorem dL_law_214 : decode cL_law 214 = .ok (.iconst 3, 1) := by decide +kernel
theorem dL_law_215 : decode cL_law 215 = .ok (.iadd, 1) := by decide +kernel
theorem dL_law_216 : decode cL_law 216 = .ok (.iaload, 1) := by decide +kernel
theorem dL_law_217 : decode cL_law 217 = .ok (.i2l, 1) := by decide +kernel
theorem dL_law_218 : decode cL_law 218 = .ok (.ldc2_w 13, 3) := by decide +kernel
theorem dL_law_221 : decode cL_law 221 = .ok (.land, 1) := by decide +kernel
theorem dL_law_222 : decode cL_law 222 = .ok (.lor, 1) := by decide +kernel
theorem dL_law_223 : decode cL_law 223 = .ok (.invokevirtual 19, 3) := by decide +kernel
theorem dL_law_226 : decode cL_law 226 = .ok (.if_icmp .eq 762, 3) := by decide +kernel
theorem dL_law_229 : decode cL_law 229 = .ok (.iconst 0, 1) := by decide +kernel
theorem dL_law_230 : decode cL_law 230 = .ok (.ireturn, 1) := by decide +kernel
theorem dL_law_231 : decode cL_law 231 = .ok (.aload_n 1, 1) := by decide +kernel
theorem dL_law_232 : decode cL_law 232 = .ok (.invokevirtual 20, 3) := by decide +kernel
theorem dL_law_235 : decode cL_law 235 = .ok (.aload_n 2, 1) := by decide +kernel
theorem dL_law_236 : decode cL_law 236 = .ok (.invokevirtual 24, 3) := by decide +kernel
theorem dL_law_239 : decode cL_law 239 = .ok (.if_icmp .eq 749, 3) := by decide +kernel
theorem dL_law_242 : decode cL_law 242 = .ok (.iconst 0, 1) := by decide +kernel
theorem dL_law_243 : decode cL_law 243 = .ok (.ireturn, 1) := by decide +kernel
theorem dL_law_244 : decode cL_law 244 = .ok (.aload_n 1, 1) := by decide +kernel
theorem dL_law_245 : decode cL_law 245 = .ok (.invokevirtual 25, 3) := by decide +kernel
theorem dL_law_248 : decode cL_law 248 = .ok (.aload_n 2, 1) := by decide +kernel
theorem dL_law_249 : decode cL_law 249 = .ok (.invokevirtual 28, 3) := by decide +kernel
theorem dL_law_252 : decode cL_law 252 = .ok (.if_icmp .eq 736, 3) := by decide +kernel
theorem dL_law_255 : decode cL_law 255 = .ok (.iconst 0, 1) := by decide +kernel
theorem dL_law_256 : decode cL_law 256 = .ok (.ireturn, 1) := by decide +kernel
theorem dL_law_257 : decode cL_law 257 = .ok (.aload_n 1, 1) := by decide +kernel
theorem dL_law_258 : decode cL_law 258 = .ok (.invokevirtual 29, 3) := by decide +kernel
theorem dL_law_261 : decode cL_law 261 = .ok (.aload_n 2, 1) := by decide +kernel
theorem dL_law_262 : decode cL_law 262 = .ok (.invokevirtual 32, 3) := by decide +kernel
theorem dL_law_265 : decode cL_law 265 = .ok (.if_icmp .eq 723, 3) := by decide +kernel
theorem dL_law_268 : decode cL_law 268 = .ok (.iconst 0, 1) := by decide +kernel
theorem dL_law_269 : decode cL_law 269 = .ok (.ireturn, 1) := by decide +kernel
theorem dL_law_270 : decode cL_law 270 = .ok (.aload_n 1, 1) := by decide +kernel
theorem dL_law_271 : decode cL_law 271 = .ok (.aload_n 0, 1) := by decide +kernel
theorem dL_law_272 : decode cL_law 272 = .ok (.iload_n 3, 1) := by decide +kernel
theorem dL_law_273 : decode cL_law 273 = .ok (.iconst 1, 1) := by decide +kernel
theorem dL_law_274 : decode cL_law 274 = .ok (.iadd, 1) := by decide +kernel
theorem dL_law_275 : decode cL_law 275 = .ok (.iaload, 1) := by decide +kernel
theorem dL_law_276 : decode cL_law 276 = .ok (.invokevirtual 33, 3) := by decide +kernel
theorem dL_law_279 : decode cL_law 279 = .ok (.aload_n 2, 1) := by decide +kernel
theorem dL_law_280 : decode cL_law 280 = .ok (.aload_n 0, 1) := by decide +kernel
theorem dL_law_281 : decode cL_law 281 = .ok (.iload_n 3, 1) := by decide +kernel
theorem dL_law_282 : decode cL_law 282 = .ok (.iconst 1, 1) := by decide +kernel
theorem dL_law_283 : decode cL_law 283 = .ok (.iadd, 1) := by decide +kernel
theorem dL_law_284 : decode cL_law 284 = .ok (.iaload, 1) := by decide +kernel
theorem dL_law_285 : decode cL_law 285 = .ok (.invokevirtual 37, 3) := by decide +kernel
theorem dL_law_288 : decode cL_law 288 = .ok (.if_icmp .eq 700, 3) := by decide +kernel
theorem dL_law_291 : decode cL_law 291 = .ok (.iconst 0, 1) := by decide +kernel
theorem dL_law_292 : decode cL_law 292 = .ok (.ireturn, 1) := by decide +kernel
theorem dL_law_293 : decode cL_law 293 = .ok (.aload_n 1, 1) := by decide +kernel
theorem dL_law_294 : decode cL_law 294 = .ok (.aload_n 0, 1) := by decide +kernel
theorem dL_law_295 : decode cL_law 295 = .ok (.iload_n 3, 1) := by decide +kernel
theorem dL_law_296 : decode cL_law 296 = .ok (.iconst 1, 1) := by decide +kernel
theorem dL_law_297 : decode cL_law 297 = .ok (.iadd, 1) := by decide +kernel
theorem dL_law_298 : decode cL_law 298 = .ok (.iaload, 1) := by decide +kernel
theorem dL_law_299 : decode cL_law 299 = .ok (.aload_n 0, 1) := by decide +kernel
theorem dL_law_300 : decode cL_law 300 = .ok (.iload_n 3, 1) := by decide +kernel
theorem dL_law_301 : decode cL_law 301 = .ok (.iconst 2, 1) := by decide +kernel
theorem dL_law_302 : decode cL_law 302 = .ok (.iadd, 1) := by decide +kernel
theorem dL_law_303 : decode cL_law 303 = .ok (.iaload, 1) := by decide +kernel
theorem dL_law_304 : decode cL_law 304 = .ok (.invokevirtual 38, 3) := by decide +kernel
theorem dL_law_307 : decode cL_law 307 = .ok (.aload_n 2, 1) := by decide +kernel
theorem dL_law_308 : decode cL_law 308 = .ok (.aload_n 0, 1) := by decide +kernel
theorem dL_law_309 : decode cL_law 309 = .ok (.iload_n 3, 1) := by decide +kernel
theorem dL_law_310 : decode cL_law 310 = .ok (.iconst 1, 1) := by decide +kernel
theorem dL_law_311 : decode cL_law 311 = .ok (.iadd, 1) := by decide +kernel
theorem dL_law_312 : decode cL_law 312 = .ok (.iaload, 1) := by decide +kernel
theorem dL_law_313 : decode cL_law 313 = .ok (.aload_n 0, 1) := by decide +kernel
theorem dL_law_314 : decode cL_law 314 = .ok (.iload_n 3, 1) := by decide +kernel
theorem dL_law_315 : decode cL_law 315 = .ok (.iconst 2, 1) := by decide +kernel
theorem dL_law_316 : decode cL_law 316 = .ok (.iadd, 1) := by decide +kernel
theorem dL_law_317 : decode cL_law 317 = .ok (.iaload, 1) := by decide +kernel
theorem dL_law_318 : decode cL_law 318 = .ok (.invokevirtual 42, 3) := by decide +kernel
theorem dL_law_321 : decode cL_law 321 = .ok (.if_icmp .eq 667, 3) := by decide +kernel
theorem dL_law_324 : decode cL_law 324 = .ok (.iconst 0, 1) := by decide +kernel
theorem dL_law_325 : decode cL_law 325 = .ok (.ireturn, 1) := by decide +kernel
theorem dL_law_326 : decode cL_law 326 = .ok (.aload_n 1, 1) := by decide +kernel
theorem dL_law_327 : decode cL_law 327 = .ok (.aload_n 0, 1) := by decide +kernel
theorem dL_law_328 : decode cL_law 328 = .ok (.iload_n 3, 1) := by decide +kernel
theorem dL_law_329 : decode cL_law 329 = .ok (.iconst 1, 1) := by decide +kernel
theorem dL_law_330 : decode cL_law 330 = .ok (.iadd, 1) := by decide +kernel
theorem dL_law_331 : decode cL_law 331 = .ok (.iaload, 1) := by decide +kernel
theorem dL_law_332 : decode cL_law 332 = .ok (.aload_n 0, 1) := by decide +kernel
theorem dL_law_333 : decode cL_law 333 = .ok (.iload_n 3, 1) := by decide +kernel
theorem dL_law_334 : decode cL_law 334 = .ok (.iconst 2, 1) := by decide +kernel
theorem dL_law_335 : decode cL_law 335 = .ok (.iadd, 1) := by decide +kernel
theorem dL_law_336 : decode cL_law 336 = .ok (.iaload, 1) := by decide +kernel
theorem dL_law_337 : decode cL_law 337 = .ok (.invokevirtual 43, 3) := by decide +kernel
theorem dL_law_340 : decode cL_law 340 = .ok (.aload_n 2, 1) := by decide +kernel
theorem dL_law_341 : decode cL_law 341 = .ok (.aload_n 0, 1) := by decide +kernel
theorem dL_law_342 : decode cL_law 342 = .ok (.iload_n 3, 1) := by decide +kernel
theorem dL_law_343 : decode cL_law 343 = .ok (.iconst 1, 1) := by decide +kernel
theorem dL_law_344 : decode cL_law 344 = .ok (.iadd, 1) := by decide +kernel
theorem dL_law_345 : decode cL_law 345 = .ok (.iaload, 1) := by decide +kernel
theorem dL_law_346 : decode cL_law 346 = .ok (.aload_n 0, 1) := by decide +kernel
theorem dL_law_347 : decode cL_law 347 = .ok (.iload_n 3, 1) := by decide +kernel
theorem dL_law_348 : decode cL_law 348 = .ok (.iconst 2, 1) := by decide +kernel
theorem dL_law_349 : decode cL_law 349 = .ok (.iadd, 1) := by decide +kernel
theorem dL_law_350 : decode cL_law 350 = .ok (.iaload, 1) := by decide +kernel
theorem dL_law_351 : decode cL_law 351 = .ok (.invokevirtual 46, 3) := by decide +kernel
theorem dL_law_354 : decode cL_law 354 = .ok (.if_icmp .eq 634, 3) := by decide +kernel
theorem dL_law_357 : decode cL_law 357 = .ok (.iconst 0, 1) := by decide +kernel
theorem dL_law_358 : decode cL_law 358 = .ok (.ireturn, 1) := by decide +kernel
theorem dL_law_359 : decode cL_law 359 = .ok (.aload_n 1, 1) := by decide +kernel
theorem dL_law_360 : decode cL_law 360 = .ok (.aload_n 0, 1) := by decide +kernel
theorem dL_law_361 : decode cL_law 361 = .ok (.iload_n 3, 1) := by decide +kernel
theorem dL_law_362 : decode cL_law 362 = .ok (.iconst 1, 1) := by decide +kernel
theorem dL_law_363 : decode cL_law 363 = .ok (.iadd, 1) := by decide +kernel
theorem dL_law_364 : decode cL_law 364 = .ok (.iaload, 1) := by decide +kernel
theorem dL_law_365 : decode cL_law 365 = .ok (.aload_n 0, 1) := by decide +kernel
theorem dL_law_366 : decode cL_law 366 = .ok (.iload_n 3, 1) := by decide +kernel
theorem dL_law_367 : decode cL_law 367 = .ok (.iconst 2, 1) := by decide +kernel
theorem dL_law_368 : decode cL_law 368 = .ok (.iadd, 1) := by decide +kernel
theorem dL_law_369 : decode cL_law 369 = .ok (.iaload, 1) := by decide +kernel
theorem dL_law_370 : decode cL_law 370 = .ok (.invokevirtual 47, 3) := by decide +kernel
theorem dL_law_373 : decode cL_law 373 = .ok (.aload_n 2, 1) := by decide +kernel
theorem dL_law_374 : decode cL_law 374 = .ok (.aload_n 0, 1) := by decide +kernel
theorem dL_law_375 : decode cL_law 375 = .ok (.iload_n 3, 1) := by decide +kernel
theorem dL_law_376 : decode cL_law 376 = .ok (.iconst 1, 1) := by decide +kernel
theorem dL_law_377 : decode cL_law 377 = .ok (.iadd, 1) := by decide +kernel
theorem dL_law_378 : decode cL_law 378 = .ok (.iaload, 1) := by decide +kernel
theorem dL_law_379 : decode cL_law 379 = .ok (.aload_n 0, 1) := by decide +kernel
theorem dL_law_380 : decode cL_law 380 = .ok (.iload_n 3, 1) := by decide +kernel
theorem dL_law_381 : decode cL_law 381 = .ok (.iconst 2, 1) := by decide +kernel
theorem dL_law_382 : decode cL_law 382 = .ok (.iadd, 1) := by decide +kernel
theorem dL_law_383 : decode cL_law 383 = .ok (.iaload, 1) := by decide +kernel
theorem dL_law_384 : decode cL_law 384 = .ok (.invokevirtual 50, 3) := by decide +kernel
theorem dL_law_387 : decode cL_law 387 = .ok (.if_icmp .eq 601, 3) := by decide +kernel
theorem dL_law_390 : decode cL_law 390 = .ok (.iconst 0, 1) := by decide +kernel
theorem dL_law_391 : decode cL_law 391 = .ok (.ireturn, 1) := by decide +kernel
theorem dL_law_392 : decode cL_law 392 = .ok (.aload_n 1, 1) := by decide +kernel
theorem dL_law_393 : decode cL_law 393 = .ok (.aload_n 0, 1) := by decide +kernel
theorem dL_law_394 : decode cL_law 394 = .ok (.iload_n 3, 1) := by decide +kernel
theorem dL_law_395 : decode cL_law 395 = .ok (.iconst 1, 1) := by decide +kernel
theorem dL_law_396 : decode cL_law 396 = .ok (.iadd, 1) := by decide +kernel
theorem dL_law_397 : decode cL_law 397 = .ok (.iaload, 1) := by decide +kernel
theorem dL_law_398 : decode cL_law 398 = .ok (.invokevirtual 51, 3) := by decide +kernel
theorem dL_law_401 : decode cL_law 401 = .ok (.aload_n 2, 1) := by decide +kernel
theorem dL_law_402 : decode cL_law 402 = .ok (.aload_n 0, 1) := by decide +kernel
theorem dL_law_403 : decode cL_law 403 = .ok (.iload_n 3, 1) := by decide +kernel
theorem dL_law_404 : decode cL_law 404 = .ok (.iconst 1, 1) := by decide +kernel
theorem dL_law_405 : decode cL_law 405 = .ok (.iadd, 1) := by decide +kernel
theorem dL_law_406 : decode cL_law 406 = .ok (.iaload, 1) := by decide +kernel
theorem dL_law_407 : decode cL_law 407 = .ok (.invokevirtual 54, 3) := by decide +kernel
theorem dL_law_410 : decode cL_law 410 = .ok (.if_icmp .eq 578, 3) := by decide +kernel
theorem dL_law_413 : decode cL_law 413 = .ok (.iconst 0, 1) := by decide +kernel
theorem dL_law_414 : decode cL_law 414 = .ok (.ireturn, 1) := by decide +kernel
theorem dL_law_415 : decode cL_law 415 = .ok (.aload_n 1, 1) := by decide +kernel
theorem dL_law_416 : decode cL_law 416 = .ok (.aload_n 0, 1) := by decide +kernel
theorem dL_law_417 : decode cL_law 417 = .ok (.iload_n 3, 1) := by decide +kernel
theorem dL_law_418 : decode cL_law 418 = .ok (.iconst 1, 1) := by decide +kernel
theorem dL_law_419 : decode cL_law 419 = .ok (.iadd, 1) := by decide +kernel
theorem dL_law_420 : decode cL_law 420 = .ok (.iaload, 1) := by decide +kernel
theorem dL_law_421 : decode cL_law 421 = .ok (.invokevirtual 55, 3) := by decide +kernel
theorem dL_law_424 : decode cL_law 424 = .ok (.aload_n 2, 1) := by decide +kernel
theorem dL_law_425 : decode cL_law 425 = .ok (.aload_n 0, 1) := by decide +kernel
theorem dL_law_426 : decode cL_law 426 = .ok (.iload_n 3, 1) := by decide +kernel
theorem dL_law_427 : decode cL_law 427 = .ok (.iconst 1, 1) := by decide +kernel
theorem dL_law_428 : decode cL_law 428 = .ok (.iadd, 1) := by decide +kernel
theorem dL_law_429 : decode cL_law 429 = .ok (.iaload, 1) := by decide +kernel
theorem dL_law_430 : decode cL_law 430 = .ok (.invokevirtual 58, 3) := by decide +kernel
theorem dL_law_433 : decode cL_law 433 = .ok (.if_icmp .eq 555, 3) := by decide +kernel
theorem dL_law_436 : decode cL_law 436 = .ok (.iconst 0, 1) := by decide +kernel
theorem dL_law_437 : decode cL_law 437 = .ok (.ireturn, 1) := by decide +kernel
theorem dL_law_438 : decode cL_law 438 = .ok (.aload_n 1, 1) := by decide +kernel
theorem dL_law_439 : decode cL_law 439 = .ok (.aload_n 0, 1) := by decide +kernel
theorem dL_law_440 : decode cL_law 440 = .ok (.iload_n 3, 1) := by decide +kernel
theorem dL_law_441 : decode cL_law 441 = .ok (.iconst 1, 1) := by decide +kernel
theorem dL_law_442 : decode cL_law 442 = .ok (.iadd, 1) := by decide +kernel
theorem dL_law_443 : decode cL_law 443 = .ok (.iaload, 1) := by decide +kernel
theorem dL_law_444 : decode cL_law 444 = .ok (.aload_n 0, 1) := by decide +kernel
theorem dL_law_445 : decode cL_law 445 = .ok (.iload_n 3, 1) := by decide +kernel
theorem dL_law_446 : decode cL_law 446 = .ok (.iconst 2, 1) := by decide +kernel
theorem dL_law_447 : decode cL_law 447 = .ok (.iadd, 1) := by decide +kernel
theorem dL_law_448 : decode cL_law 448 = .ok (.iaload, 1) := by decide +kernel
theorem dL_law_449 : decode cL_law 449 = .ok (.aload_n 0, 1) := by decide +kernel
theorem dL_law_450 : decode cL_law 450 = .ok (.iload_n 3, 1) := by decide +kernel
theorem dL_law_451 : decode cL_law 451 = .ok (.iconst 3, 1) := by decide +kernel
theorem dL_law_452 : decode cL_law 452 = .ok (.iadd, 1) := by decide +kernel
theorem dL_law_453 : decode cL_law 453 = .ok (.iaload, 1) := by decide +kernel
theorem dL_law_454 : decode cL_law 454 = .ok (.invokevirtual 59, 3) := by decide +kernel
theorem dL_law_457 : decode cL_law 457 = .ok (.aload_n 2, 1) := by decide +kernel
theorem dL_law_458 : decode cL_law 458 = .ok (.aload_n 0, 1) := by decide +kernel
theorem dL_law_459 : decode cL_law 459 = .ok (.iload_n 3, 1) := by decide +kernel
theorem dL_law_460 : decode cL_law 460 = .ok (.iconst 1, 1) := by decide +kernel
theorem dL_law_461 : decode cL_law 461 = .ok (.iadd, 1) := by decide +kernel
theorem dL_law_462 : decode cL_law 462 = .ok (.iaload, 1) := by decide +kernel
theorem dL_law_463 : decode cL_law 463 = .ok (.aload_n 0, 1) := by decide +kernel
theorem dL_law_464 : decode cL_law 464 = .ok (.iload_n 3, 1) := by decide +kernel
theorem dL_law_465 : decode cL_law 465 = .ok (.iconst 2, 1) := by decide +kernel
theorem dL_law_466 : decode cL_law 466 = .ok (.iadd, 1) := by decide +kernel
theorem dL_law_467 : decode cL_law 467 = .ok (.iaload, 1) := by decide +kernel
theorem dL_law_468 : decode cL_law 468 = .ok (.aload_n 0, 1) := by decide +kernel
theorem dL_law_469 : decode cL_law 469 = .ok (.iload_n 3, 1) := by decide +kernel
theorem dL_law_470 : decode cL_law 470 = .ok (.iconst 3, 1) := by decide +kernel
theorem dL_law_471 : decode cL_law 471 = .ok (.iadd, 1) := by decide +kernel
theorem dL_law_472 : decode cL_law 472 = .ok (.iaload, 1) := by decide +kernel
theorem dL_law_473 : decode cL_law 473 = .ok (.invokevirtual 63, 3) := by decide +kernel
theorem dL_law_476 : decode cL_law 476 = .ok (.if_icmp .eq 512, 3) := by decide +kernel
theorem dL_law_479 : decode cL_law 479 = .ok (.iconst 0, 1) := by decide +kernel
theorem dL_law_480 : decode cL_law 480 = .ok (.ireturn, 1) := by decide +kernel
theorem dL_law_481 : decode cL_law 481 = .ok (.aload_n 1, 1) := by decide +kernel
theorem dL_law_482 : decode cL_law 482 = .ok (.aload_n 0, 1) := by decide +kernel
theorem dL_law_483 : decode cL_law 483 = .ok (.iload_n 3, 1) := by decide +kernel
theorem dL_law_484 : decode cL_law 484 = .ok (.iconst 1, 1) := by decide +kernel
theorem dL_law_485 : decode cL_law 485 = .ok (.iadd, 1) := by decide +kernel
theorem dL_law_486 : decode cL_law 486 = .ok (.iaload, 1) := by decide +kernel
theorem dL_law_487 : decode cL_law 487 = .ok (.aload_n 0, 1) := by decide +kernel
theorem dL_law_488 : decode cL_law 488 = .ok (.iload_n 3, 1) := by decide +kernel
theorem dL_law_489 : decode cL_law 489 = .ok (.iconst 2, 1) := by decide +kernel
theorem dL_law_490 : decode cL_law 490 = .ok (.iadd, 1) := by decide +kernel
theorem dL_law_491 : decode cL_law 491 = .ok (.iaload, 1) := by decide +kernel
theorem dL_law_492 : decode cL_law 492 = .ok (.aload_n 0, 1) := by decide +kernel
theorem dL_law_493 : decode cL_law 493 = .ok (.iload_n 3, 1) := by decide +kernel
theorem dL_law_494 : decode cL_law 494 = .ok (.iconst 3, 1) := by decide +kernel
theorem dL_law_495 : decode cL_law 495 = .ok (.iadd, 1) := by decide +kernel
theorem dL_law_496 : decode cL_law 496 = .ok (.iaload, 1) := by decide +kernel
theorem dL_law_497 : decode cL_law 497 = .ok (.invokevirtual 64, 3) := by decide +kernel
theorem dL_law_500 : decode cL_law 500 = .ok (.aload_n 2, 1) := by decide +kernel
theorem dL_law_501 : decode cL_law 501 = .ok (.aload_n 0, 1) := by decide +kernel
theorem dL_law_502 : decode cL_law 502 = .ok (.iload_n 3, 1) := by decide +kernel
theorem dL_law_503 : decode cL_law 503 = .ok (.iconst 1, 1) := by decide +kernel
theorem dL_law_504 : decode cL_law 504 = .ok (.iadd, 1) := by decide +kernel
theorem dL_law_505 : decode cL_law 505 = .ok (.iaload, 1) := by decide +kernel
theorem dL_law_506 : decode cL_law 506 = .ok (.aload_n 0, 1) := by decide +kernel
theorem dL_law_507 : decode cL_law 507 = .ok (.iload_n 3, 1) := by decide +kernel
theorem dL_law_508 : decode cL_law 508 = .ok (.iconst 2, 1) := by decide +kernel
theorem dL_law_509 : decode cL_law 509 = .ok (.iadd, 1) := by decide +kernel
theorem dL_law_510 : decode cL_law 510 = .ok (.iaload, 1) := by decide +kernel
theorem dL_law_511 : decode cL_law 511 = .ok (.aload_n 0, 1) := by decide +kernel
theorem dL_law_512 : decode cL_law 512 = .ok (.iload_n 3, 1) := by decide +kernel
theorem dL_law_513 : decode cL_law 513 = .ok (.iconst 3, 1) := by decide +kernel
theorem dL_law_514 : decode cL_law 514 = .ok (.iadd, 1) := by decide +kernel
theorem dL_law_515 : decode cL_law 515 = .ok (.iaload, 1) := by decide +kernel
theorem dL_law_516 : decode cL_law 516 = .ok (.invokevirtual 67, 3) := by decide +kernel
theorem dL_law_519 : decode cL_law 519 = .ok (.if_icmp .eq 469, 3) := by decide +kernel
theorem dL_law_522 : decode cL_law 522 = .ok (.iconst 0, 1) := by decide +kernel
theorem dL_law_523 : decode cL_law 523 = .ok (.ireturn, 1) := by decide +kernel
theorem dL_law_524 : decode cL_law 524 = .ok (.aload_n 1, 1) := by decide +kernel
theorem dL_law_525 : decode cL_law 525 = .ok (.aload_n 0, 1) := by decide +kernel
theorem dL_law_526 : decode cL_law 526 = .ok (.iload_n 3, 1) := by decide +kernel
theorem dL_law_527 : decode cL_law 527 = .ok (.iconst 1, 1) := by decide +kernel
theorem dL_law_528 : decode cL_law 528 = .ok (.iadd, 1) := by decide +kernel
theorem dL_law_529 : decode cL_law 529 = .ok (.iaload, 1) := by decide +kernel
theorem dL_law_530 : decode cL_law 530 = .ok (.aload_n 0, 1) := by decide +kernel
theorem dL_law_531 : decode cL_law 531 = .ok (.iload_n 3, 1) := by decide +kernel
theorem dL_law_532 : decode cL_law 532 = .ok (.iconst 2, 1) := by decide +kernel
theorem dL_law_533 : decode cL_law 533 = .ok (.iadd, 1) := by decide +kernel
theorem dL_law_534 : decode cL_law 534 = .ok (.iaload, 1) := by decide +kernel
theorem dL_law_535 : decode cL_law 535 = .ok (.invokevirtual 68, 3) := by decide +kernel
theorem dL_law_538 : decode cL_law 538 = .ok (.aload_n 2, 1) := by decide +kernel
theorem dL_law_539 : decode cL_law 539 = .ok (.aload_n 0, 1) := by decide +kernel
theorem dL_law_540 : decode cL_law 540 = .ok (.iload_n 3, 1) := by decide +kernel
theorem dL_law_541 : decode cL_law 541 = .ok (.iconst 1, 1) := by decide +kernel
theorem dL_law_542 : decode cL_law 542 = .ok (.iadd, 1) := by decide +kernel
theorem dL_law_543 : decode cL_law 543 = .ok (.iaload, 1) := by decide +kernel
theorem dL_law_544 : decode cL_law 544 = .ok (.aload_n 0, 1) := by decide +kernel
theorem dL_law_545 : decode cL_law 545 = .ok (.iload_n 3, 1) := by decide +kernel
theorem dL_law_546 : decode cL_law 546 = .ok (.iconst 2, 1) := by decide +kernel
theorem dL_law_547 : decode cL_law 547 = .ok (.iadd, 1) := by decide +kernel
theorem dL_law_548 : decode cL_law 548 = .ok (.iaload, 1) := by decide +kernel
theorem dL_law_549 : decode cL_law 549 = .ok (.invokevirtual 71, 3) := by decide +kernel
theorem dL_law_552 : decode cL_law 552 = .ok (.if_icmp .eq 436, 3) := by decide +kernel
theorem dL_law_555 : decode cL_law 555 = .ok (.iconst 0, 1) := by decide +kernel
theorem dL_law_556 : decode cL_law 556 = .ok (.ireturn, 1) := by decide +kernel
theorem dL_law_557 : decode cL_law 557 = .ok (.aload_n 1, 1) := by decide +kernel
theorem dL_law_558 : decode cL_law 558 = .ok (.aload_n 0, 1) := by decide +kernel
theorem dL_law_559 : decode cL_law 559 = .ok (.iload_n 3, 1) := by decide +kernel
theorem dL_law_560 : decode cL_law 560 = .ok (.iconst 1, 1) := by decide +kernel
theorem dL_law_561 : decode cL_law 561 = .ok (.iadd, 1) := by decide +kernel
theorem dL_law_562 : decode cL_law 562 = .ok (.iaload, 1) := by decide +kernel
theorem dL_law_563 : decode cL_law 563 = .ok (.aload_n 0, 1) := by decide +kernel
theorem dL_law_564 : decode cL_law 564 = .ok (.iload_n 3, 1) := by decide +kernel
theorem dL_law_565 : decode cL_law 565 = .ok (.iconst 2, 1) := by decide +kernel
theorem dL_law_566 : decode cL_law 566 = .ok (.iadd, 1) := by decide +kernel
theorem dL_law_567 : decode cL_law 567 = .ok (.iaload, 1) := by decide +kernel
theorem dL_law_568 : decode cL_law 568 = .ok (.invokevirtual 72, 3) := by decide +kernel
theorem dL_law_571 : decode cL_law 571 = .ok (.aload_n 2, 1) := by decide +kernel
theorem dL_law_572 : decode cL_law 572 = .ok (.aload_n 0, 1) := by decide +kernel
theorem dL_law_573 : decode cL_law 573 = .ok (.iload_n 3, 1) := by decide +kernel
theorem dL_law_574 : decode cL_law 574 = .ok (.iconst 1, 1) := by decide +kernel
theorem dL_law_575 : decode cL_law 575 = .ok (.iadd, 1) := by decide +kernel
theorem dL_law_576 : decode cL_law 576 = .ok (.iaload, 1) := by decide +kernel
theorem dL_law_577 : decode cL_law 577 = .ok (.aload_n 0, 1) := by decide +kernel
theorem dL_law_578 : decode cL_law 578 = .ok (.iload_n 3, 1) := by decide +kernel
theorem dL_law_579 : decode cL_law 579 = .ok (.iconst 2, 1) := by decide +kernel
theorem dL_law_580 : decode cL_law 580 = .ok (.iadd, 1) := by decide +kernel
theorem dL_law_581 : decode cL_law 581 = .ok (.iaload, 1) := by decide +kernel
theorem dL_law_582 : decode cL_law 582 = .ok (.invokevirtual 75, 3) := by decide +kernel
theorem dL_law_585 : decode cL_law 585 = .ok (.if_icmp .eq 403, 3) := by decide +kernel
theorem dL_law_588 : decode cL_law 588 = .ok (.iconst 0, 1) := by decide +kernel
theorem dL_law_589 : decode cL_law 589 = .ok (.ireturn, 1) := by decide +kernel
theorem dL_law_590 : decode cL_law 590 = .ok (.aload_n 1, 1) := by decide +kernel
theorem dL_law_591 : decode cL_law 591 = .ok (.aload_n 0, 1) := by decide +kernel
theorem dL_law_592 : decode cL_law 592 = .ok (.iload_n 3, 1) := by decide +kernel
theorem dL_law_593 : decode cL_law 593 = .ok (.iconst 1, 1) := by decide +kernel
theorem dL_law_594 : decode cL_law 594 = .ok (.iadd, 1) := by decide +kernel
theorem dL_law_595 : decode cL_law 595 = .ok (.iaload, 1) := by decide +kernel
theorem dL_law_596 : decode cL_law 596 = .ok (.aload_n 0, 1) := by decide +kernel
theorem dL_law_597 : decode cL_law 597 = .ok (.iload_n 3, 1) := by decide +kernel
theorem dL_law_598 : decode cL_law 598 = .ok (.iconst 2, 1) := by decide +kernel
theorem dL_law_599 : decode cL_law 599 = .ok (.iadd, 1) := by decide +kernel
theorem dL_law_600 : decode cL_law 600 = .ok (.iaload, 1) := by decide +kernel
theorem dL_law_601 : decode cL_law 601 = .ok (.aload_n 0, 1) := by decide +kernel
theorem dL_law_602 : decode cL_law 602 = .ok (.iload_n 3, 1) := by decide +kernel
theorem dL_law_603 : decode cL_law 603 = .ok (.iconst 3, 1) := by decide +kernel
theorem dL_law_604 : decode cL_law 604 = .ok (.iadd, 1) := by decide +kernel
theorem dL_law_605 : decode cL_law 605 = .ok (.iaload, 1) := by decide +kernel
theorem dL_law_606 : decode cL_law 606 = .ok (.invokevirtual 76, 3) := by decide +kernel
theorem dL_law_609 : decode cL_law 609 = .ok (.aload_n 2, 1) := by decide +kernel
theorem dL_law_610 : decode cL_law 610 = .ok (.aload_n 0, 1) := by decide +kernel
theorem dL_law_611 : decode cL_law 611 = .ok (.iload_n 3, 1) := by decide +kernel
theorem dL_law_612 : decode cL_law 612 = .ok (.iconst 1, 1) := by decide +kernel
theorem dL_law_613 : decode cL_law 613 = .ok (.iadd, 1) := by decide +kernel
theorem dL_law_614 : decode cL_law 614 = .ok (.iaload, 1) := by decide +kernel
theorem dL_law_615 : decode cL_law 615 = .ok (.aload_n 0, 1) := by decide +kernel
theorem dL_law_616 : decode cL_law 616 = .ok (.iload_n 3, 1) := by decide +kernel
theorem dL_law_617 : decode cL_law 617 = .ok (.iconst 2, 1) := by decide +kernel
theorem dL_law_618 : decode cL_law 618 = .ok (.iadd, 1) := by decide +kernel
theorem dL_law_619 : decode cL_law 619 = .ok (.iaload, 1) := by decide +kernel
theorem dL_law_620 : decode cL_law 620 = .ok (.aload_n 0, 1) := by decide +kernel
theorem dL_law_621 : decode cL_law 621 = .ok (.iload_n 3, 1) := by decide +kernel
theorem dL_law_622 : decode cL_law 622 = .ok (.iconst 3, 1) := by decide +kernel
theorem dL_law_623 : decode cL_law 623 = .ok (.iadd, 1) := by decide +kernel
theorem dL_law_624 : decode cL_law 624 = .ok (.iaload, 1) := by decide +kernel
theorem dL_law_625 : decode cL_law 625 = .ok (.invokevirtual 79, 3) := by decide +kernel
theorem dL_law_628 : decode cL_law 628 = .ok (.if_icmp .eq 360, 3) := by decide +kernel
theorem dL_law_631 : decode cL_law 631 = .ok (.iconst 0, 1) := by decide +kernel
theorem dL_law_632 : decode cL_law 632 = .ok (.ireturn, 1) := by decide +kernel
theorem dL_law_633 : decode cL_law 633 = .ok (.aload_n 1, 1) := by decide +kernel
theorem dL_law_634 : decode cL_law 634 = .ok (.aload_n 0, 1) := by decide +kernel
theorem dL_law_635 : decode cL_law 635 = .ok (.iload_n 3, 1) := by decide +kernel
theorem dL_law_636 : decode cL_law 636 = .ok (.iconst 1, 1) := by decide +kernel
theorem dL_law_637 : decode cL_law 637 = .ok (.iadd, 1) := by decide +kernel
theorem dL_law_638 : decode cL_law 638 = .ok (.iaload, 1) := by decide +kernel
theorem dL_law_639 : decode cL_law 639 = .ok (.aload_n 0, 1) := by decide +kernel
theorem dL_law_640 : decode cL_law 640 = .ok (.iload_n 3, 1) := by decide +kernel
theorem dL_law_641 : decode cL_law 641 = .ok (.iconst 2, 1) := by decide +kernel
theorem dL_law_642 : decode cL_law 642 = .ok (.iadd, 1) := by decide +kernel
theorem dL_law_643 : decode cL_law 643 = .ok (.iaload, 1) := by decide +kernel
theorem dL_law_644 : decode cL_law 644 = .ok (.invokevirtual 80, 3) := by decide +kernel
theorem dL_law_647 : decode cL_law 647 = .ok (.aload_n 2, 1) := by decide +kernel
theorem dL_law_648 : decode cL_law 648 = .ok (.aload_n 0, 1) := by decide +kernel
theorem dL_law_649 : decode cL_law 649 = .ok (.iload_n 3, 1) := by decide +kernel
theorem dL_law_650 : decode cL_law 650 = .ok (.iconst 1, 1) := by decide +kernel
theorem dL_law_651 : decode cL_law 651 = .ok (.iadd, 1) := by decide +kernel
theorem dL_law_652 : decode cL_law 652 = .ok (.iaload, 1) := by decide +kernel
theorem dL_law_653 : decode cL_law 653 = .ok (.aload_n 0, 1) := by decide +kernel
theorem dL_law_654 : decode cL_law 654 = .ok (.iload_n 3, 1) := by decide +kernel
theorem dL_law_655 : decode cL_law 655 = .ok (.iconst 2, 1) := by decide +kernel
theorem dL_law_656 : decode cL_law 656 = .ok (.iadd, 1) := by decide +kernel
theorem dL_law_657 : decode cL_law 657 = .ok (.iaload, 1) := by decide +kernel
theorem dL_law_658 : decode cL_law 658 = .ok (.invokevirtual 83, 3) := by decide +kernel
theorem dL_law_661 : decode cL_law 661 = .ok (.if_icmp .eq 327, 3) := by decide +kernel
theorem dL_law_664 : decode cL_law 664 = .ok (.iconst 0, 1) := by decide +kernel
theorem dL_law_665 : decode cL_law 665 = .ok (.ireturn, 1) := by decide +kernel
theorem dL_law_666 : decode cL_law 666 = .ok (.aload_n 1, 1) := by decide +kernel
theorem dL_law_667 : decode cL_law 667 = .ok (.invokevirtual 84, 3) := by decide +kernel
theorem dL_law_670 : decode cL_law 670 = .ok (.aload_n 2, 1) := by decide +kernel
theorem dL_law_671 : decode cL_law 671 = .ok (.invokevirtual 87, 3) := by decide +kernel
theorem dL_law_674 : decode cL_law 674 = .ok (.if_icmp .eq 314, 3) := by decide +kernel
theorem dL_law_677 : decode cL_law 677 = .ok (.iconst 0, 1) := by decide +kernel
theorem dL_law_678 : decode cL_law 678 = .ok (.ireturn, 1) := by decide +kernel
theorem dL_law_679 : decode cL_law 679 = .ok (.aload_n 1, 1) := by decide +kernel
theorem dL_law_680 : decode cL_law 680 = .ok (.invokevirtual 88, 3) := by decide +kernel
theorem dL_law_683 : decode cL_law 683 = .ok (.aload_n 2, 1) := by decide +kernel
theorem dL_law_684 : decode cL_law 684 = .ok (.invokevirtual 91, 3) := by decide +kernel
theorem dL_law_687 : decode cL_law 687 = .ok (.if_icmp .eq 301, 3) := by decide +kernel
theorem dL_law_690 : decode cL_law 690 = .ok (.iconst 0, 1) := by decide +kernel
theorem dL_law_691 : decode cL_law 691 = .ok (.ireturn, 1) := by decide +kernel
theorem dL_law_692 : decode cL_law 692 = .ok (.aload_n 1, 1) := by decide +kernel
theorem dL_law_693 : decode cL_law 693 = .ok (.aload_n 0, 1) := by decide +kernel
theorem dL_law_694 : decode cL_law 694 = .ok (.iload_n 3, 1) := by decide +kernel
theorem dL_law_695 : decode cL_law 695 = .ok (.iconst 1, 1) := by decide +kernel
theorem dL_law_696 : decode cL_law 696 = .ok (.iadd, 1) := by decide +kernel
theorem dL_law_697 : decode cL_law 697 = .ok (.iaload, 1) := by decide +kernel
theorem dL_law_698 : decode cL_law 698 = .ok (.invokevirtual 92, 3) := by decide +kernel
theorem dL_law_701 : decode cL_law 701 = .ok (.aload_n 2, 1) := by decide +kernel
theorem dL_law_702 : decode cL_law 702 = .ok (.aload_n 0, 1) := by decide +kernel
theorem dL_law_703 : decode cL_law 703 = .ok (.iload_n 3, 1) := by decide +kernel
theorem dL_law_704 : decode cL_law 704 = .ok (.iconst 1, 1) := by decide +kernel
theorem dL_law_705 : decode cL_law 705 = .ok (.iadd, 1) := by decide +kernel
theorem dL_law_706 : decode cL_law 706 = .ok (.iaload, 1) := by decide +kernel
theorem dL_law_707 : decode cL_law 707 = .ok (.invokevirtual 95, 3) := by decide +kernel
theorem dL_law_710 : decode cL_law 710 = .ok (.if_icmp .eq 278, 3) := by decide +kernel
theorem dL_law_713 : decode cL_law 713 = .ok (.iconst 0, 1) := by decide +kernel
theorem dL_law_714 : decode cL_law 714 = .ok (.ireturn, 1) := by decide +kernel
theorem dL_law_715 : decode cL_law 715 = .ok (.aload_n 1, 1) := by decide +kernel
theorem dL_law_716 : decode cL_law 716 = .ok (.aload_n 0, 1) := by decide +kernel
theorem dL_law_717 : decode cL_law 717 = .ok (.iload_n 3, 1) := by decide +kernel
theorem dL_law_718 : decode cL_law 718 = .ok (.iconst 1, 1) := by decide +kernel
theorem dL_law_719 : decode cL_law 719 = .ok (.iadd, 1) := by decide +kernel
theorem dL_law_720 : decode cL_law 720 = .ok (.iaload, 1) := by decide +kernel
theorem dL_law_721 : decode cL_law 721 = .ok (.aload_n 0, 1) := by decide +kernel
theorem dL_law_722 : decode cL_law 722 = .ok (.iload_n 3, 1) := by decide +kernel
theorem dL_law_723 : decode cL_law 723 = .ok (.iconst 2, 1) := by decide +kernel
theorem dL_law_724 : decode cL_law 724 = .ok (.iadd, 1) := by decide +kernel
theorem dL_law_725 : decode cL_law 725 = .ok (.iaload, 1) := by decide +kernel
theorem dL_law_726 : decode cL_law 726 = .ok (.invokevirtual 96, 3) := by decide +kernel
theorem dL_law_729 : decode cL_law 729 = .ok (.aload_n 2, 1) := by decide +kernel
theorem dL_law_730 : decode cL_law 730 = .ok (.aload_n 0, 1) := by decide +kernel
theorem dL_law_731 : decode cL_law 731 = .ok (.iload_n 3, 1) := by decide +kernel
theorem dL_law_732 : decode cL_law 732 = .ok (.iconst 1, 1) := by decide +kernel
theorem dL_law_733 : decode cL_law 733 = .ok (.iadd, 1) := by decide +kernel
theorem dL_law_734 : decode cL_law 734 = .ok (.iaload, 1) := by decide +kernel
theorem dL_law_735 : decode cL_law 735 = .ok (.aload_n 0, 1) := by decide +kernel
theorem dL_law_736 : decode cL_law 736 = .ok (.iload_n 3, 1) := by decide +kernel
theorem dL_law_737 : decode cL_law 737 = .ok (.iconst 2, 1) := by decide +kernel
theorem dL_law_738 : decode cL_law 738 = .ok (.iadd, 1) := by decide +kernel
theorem dL_law_739 : decode cL_law 739 = .ok (.iaload, 1) := by decide +kernel
theorem dL_law_740 : decode cL_law 740 = .ok (.invokevirtual 99, 3) := by decide +kernel
theorem dL_law_743 : decode cL_law 743 = .ok (.if_icmp .eq 245, 3) := by decide +kernel
theorem dL_law_746 : decode cL_law 746 = .ok (.iconst 0, 1) := by decide +kernel
theorem dL_law_747 : decode cL_law 747 = .ok (.ireturn, 1) := by decide +kernel
theorem dL_law_748 : decode cL_law 748 = .ok (.aload_n 1, 1) := by decide +kernel
theorem dL_law_749 : decode cL_law 749 = .ok (.aload_n 0, 1) := by decide +kernel
theorem dL_law_750 : decode cL_law 750 = .ok (.iload_n 3, 1) := by decide +kernel
theorem dL_law_751 : decode cL_law 751 = .ok (.iconst 1, 1) := by decide +kernel
theorem dL_law_752 : decode cL_law 752 = .ok (.iadd, 1) := by decide +kernel
theorem dL_law_753 : decode cL_law 753 = .ok (.iaload, 1) := by decide +kernel
theorem dL_law_754 : decode cL_law 754 = .ok (.aload_n 0, 1) := by decide +kernel
theorem dL_law_755 : decode cL_law 755 = .ok (.iload_n 3, 1) := by decide +kernel
theorem dL_law_756 : decode cL_law 756 = .ok (.iconst 2, 1) := by decide +kernel
theorem dL_law_757 : decode cL_law 757 = .ok (.iadd, 1) := by decide +kernel
theorem dL_law_758 : decode cL_law 758 = .ok (.iaload, 1) := by decide +kernel
theorem dL_law_759 : decode cL_law 759 = .ok (.invokevirtual 100, 3) := by decide +kernel
theorem dL_law_762 : decode cL_law 762 = .ok (.aload_n 2, 1) := by decide +kernel
theorem dL_law_763 : decode cL_law 763 = .ok (.aload_n 0, 1) := by decide +kernel
theorem dL_law_764 : decode cL_law 764 = .ok (.iload_n 3, 1) := by decide +kernel
theorem dL_law_765 : decode cL_law 765 = .ok (.iconst 1, 1) := by decide +kernel
theorem dL_law_766 : decode cL_law 766 = .ok (.iadd, 1) := by decide +kernel
theorem dL_law_767 : decode cL_law 767 = .ok (.iaload, 1) := by decide +kernel
theorem dL_law_768 : decode cL_law 768 = .ok (.aload_n 0, 1) := by decide +kernel
theorem dL_law_769 : decode cL_law 769 = .ok (.iload_n 3, 1) := by decide +kernel
theorem dL_law_770 : decode cL_law 770 = .ok (.iconst 2, 1) := by decide +kernel
theorem dL_law_771 : decode cL_law 771 = .ok (.iadd, 1) := by decide +kernel
theorem dL_law_772 : decode cL_law 772 = .ok (.iaload, 1) := by decide +kernel
theorem dL_law_773 : decode cL_law 773 = .ok (.invokevirtual 103, 3) := by decide +kernel
theorem dL_law_776 : decode cL_law 776 = .ok (.if_icmp .eq 212, 3) := by decide +kernel
theorem dL_law_779 : decode cL_law 779 = .ok (.iconst 0, 1) := by decide +kernel
theorem dL_law_780 : decode cL_law 780 = .ok (.ireturn, 1) := by decide +kernel
theorem dL_law_781 : decode cL_law 781 = .ok (.aload_n 1, 1) := by decide +kernel
theorem dL_law_782 : decode cL_law 782 = .ok (.aload_n 0, 1) := by decide +kernel
theorem dL_law_783 : decode cL_law 783 = .ok (.iload_n 3, 1) := by decide +kernel
theorem dL_law_784 : decode cL_law 784 = .ok (.iconst 1, 1) := by decide +kernel
theorem dL_law_785 : decode cL_law 785 = .ok (.iadd, 1) := by decide +kernel
theorem dL_law_786 : decode cL_law 786 = .ok (.iaload, 1) := by decide +kernel
theorem dL_law_787 : decode cL_law 787 = .ok (.aload_n 0, 1) := by decide +kernel
theorem dL_law_788 : decode cL_law 788 = .ok (.iload_n 3, 1) := by decide +kernel
theorem dL_law_789 : decode cL_law 789 = .ok (.iconst 2, 1) := by decide +kernel
theorem dL_law_790 : decode cL_law 790 = .ok (.iadd, 1) := by decide +kernel
theorem dL_law_791 : decode cL_law 791 = .ok (.iaload, 1) := by decide +kernel
theorem dL_law_792 : decode cL_law 792 = .ok (.invokevirtual 104, 3) := by decide +kernel
theorem dL_law_795 : decode cL_law 795 = .ok (.aload_n 2, 1) := by decide +kernel
theorem dL_law_796 : decode cL_law 796 = .ok (.aload_n 0, 1) := by decide +kernel
theorem dL_law_797 : decode cL_law 797 = .ok (.iload_n 3, 1) := by decide +kernel
theorem dL_law_798 : decode cL_law 798 = .ok (.iconst 1, 1) := by decide +kernel
theorem dL_law_799 : decode cL_law 799 = .ok (.iadd, 1) := by decide +kernel
theorem dL_law_800 : decode cL_law 800 = .ok (.iaload, 1) := by decide +kernel
theorem dL_law_801 : decode cL_law 801 = .ok (.aload_n 0, 1) := by decide +kernel
theorem dL_law_802 : decode cL_law 802 = .ok (.iload_n 3, 1) := by decide +kernel
theorem dL_law_803 : decode cL_law 803 = .ok (.iconst 2, 1) := by decide +kernel
theorem dL_law_804 : decode cL_law 804 = .ok (.iadd, 1) := by decide +kernel
theorem dL_law_805 : decode cL_law 805 = .ok (.iaload, 1) := by decide +kernel
theorem dL_law_806 : decode cL_law 806 = .ok (.invokevirtual 107, 3) := by decide +kernel
theorem dL_law_809 : decode cL_law 809 = .ok (.if_icmp .eq 179, 3) := by decide +kernel
theorem dL_law_812 : decode cL_law 812 = .ok (.iconst 0, 1) := by decide +kernel
theorem dL_law_813 : decode cL_law 813 = .ok (.ireturn, 1) := by decide +kernel
theorem dL_law_814 : decode cL_law 814 = .ok (.aload_n 1, 1) := by decide +kernel
theorem dL_law_815 : decode cL_law 815 = .ok (.aload_n 0, 1) := by decide +kernel
theorem dL_law_816 : decode cL_law 816 = .ok (.iload_n 3, 1) := by decide +kernel
theorem dL_law_817 : decode cL_law 817 = .ok (.iconst 1, 1) := by decide +kernel
theorem dL_law_818 : decode cL_law 818 = .ok (.iadd, 1) := by decide +kernel
theorem dL_law_819 : decode cL_law 819 = .ok (.iaload, 1) := by decide +kernel
theorem dL_law_820 : decode cL_law 820 = .ok (.invokevirtual 108, 3) := by decide +kernel
theorem dL_law_823 : decode cL_law 823 = .ok (.aload_n 2, 1) := by decide +kernel
theorem dL_law_824 : decode cL_law 824 = .ok (.aload_n 0, 1) := by decide +kernel
theorem dL_law_825 : decode cL_law 825 = .ok (.iload_n 3, 1) := by decide +kernel
theorem dL_law_826 : decode cL_law 826 = .ok (.iconst 1, 1) := by decide +kernel
theorem dL_law_827 : decode cL_law 827 = .ok (.iadd, 1) := by decide +kernel
theorem dL_law_828 : decode cL_law 828 = .ok (.iaload, 1) := by decide +kernel
theorem dL_law_829 : decode cL_law 829 = .ok (.invokevirtual 111, 3) := by decide +kernel
theorem dL_law_832 : decode cL_law 832 = .ok (.if_icmp .eq 156, 3) := by decide +kernel
theorem dL_law_835 : decode cL_law 835 = .ok (.iconst 0, 1) := by decide +kernel
theorem dL_law_836 : decode cL_law 836 = .ok (.ireturn, 1) := by decide +kernel
theorem dL_law_837 : decode cL_law 837 = .ok (.aload_n 1, 1) := by decide +kernel
theorem dL_law_838 : decode cL_law 838 = .ok (.aload_n 0, 1) := by decide +kernel
theorem dL_law_839 : decode cL_law 839 = .ok (.iload_n 3, 1) := by decide +kernel
theorem dL_law_840 : decode cL_law 840 = .ok (.iconst 1, 1) := by decide +kernel
theorem dL_law_841 : decode cL_law 841 = .ok (.iadd, 1) := by decide +kernel
theorem dL_law_842 : decode cL_law 842 = .ok (.iaload, 1) := by decide +kernel
theorem dL_law_843 : decode cL_law 843 = .ok (.invokevirtual 112, 3) := by decide +kernel
theorem dL_law_846 : decode cL_law 846 = .ok (.aload_n 2, 1) := by decide +kernel
theorem dL_law_847 : decode cL_law 847 = .ok (.aload_n 0, 1) := by decide +kernel
theorem dL_law_848 : decode cL_law 848 = .ok (.iload_n 3, 1) := by decide +kernel
theorem dL_law_849 : decode cL_law 849 = .ok (.iconst 1, 1) := by decide +kernel
theorem dL_law_850 : decode cL_law 850 = .ok (.iadd, 1) := by decide +kernel
theorem dL_law_851 : decode cL_law 851 = .ok (.iaload, 1) := by decide +kernel
theorem dL_law_852 : decode cL_law 852 = .ok (.invokevirtual 115, 3) := by decide +kernel
theorem dL_law_855 : decode cL_law 855 = .ok (.if_icmp .eq 133, 3) := by decide +kernel
theorem dL_law_858 : decode cL_law 858 = .ok (.iconst 0, 1) := by decide +kernel
theorem dL_law_859 : decode cL_law 859 = .ok (.ireturn, 1) := by decide +kernel
theorem dL_law_860 : decode cL_law 860 = .ok (.aload_n 1, 1) := by decide +kernel
theorem dL_law_861 : decode cL_law 861 = .ok (.invokevirtual 116, 3) := by decide +kernel
theorem dL_law_864 : decode cL_law 864 = .ok (.aload_n 2, 1) := by decide +kernel
theorem dL_law_865 : decode cL_law 865 = .ok (.invokevirtual 119, 3) := by decide +kernel
theorem dL_law_868 : decode cL_law 868 = .ok (.if_icmp .eq 120, 3) := by decide +kernel
theorem dL_law_871 : decode cL_law 871 = .ok (.iconst 0, 1) := by decide +kernel
theorem dL_law_872 : decode cL_law 872 = .ok (.ireturn, 1) := by decide +kernel
theorem dL_law_873 : decode cL_law 873 = .ok (.aload_n 1, 1) := by decide +kernel
theorem dL_law_874 : decode cL_law 874 = .ok (.aload_n 0, 1) := by decide +kernel
theorem dL_law_875 : decode cL_law 875 = .ok (.iload_n 3, 1) := by decide +kernel
theorem dL_law_876 : decode cL_law 876 = .ok (.iconst 1, 1) := by decide +kernel
theorem dL_law_877 : decode cL_law 877 = .ok (.iadd, 1) := by decide +kernel
theorem dL_law_878 : decode cL_law 878 = .ok (.iaload, 1) := by decide +kernel
theorem dL_law_879 : decode cL_law 879 = .ok (.invokevirtual 120, 3) := by decide +kernel
theorem dL_law_882 : decode cL_law 882 = .ok (.aload_n 2, 1) := by decide +kernel
theorem dL_law_883 : decode cL_law 883 = .ok (.aload_n 0, 1) := by decide +kernel
theorem dL_law_884 : decode cL_law 884 = .ok (.iload_n 3, 1) := by decide +kernel
theorem dL_law_885 : decode cL_law 885 = .ok (.iconst 1, 1) := by decide +kernel
theorem dL_law_886 : decode cL_law 886 = .ok (.iadd, 1) := by decide +kernel
theorem dL_law_887 : decode cL_law 887 = .ok (.iaload, 1) := by decide +kernel
theorem dL_law_888 : decode cL_law 888 = .ok (.invokevirtual 123, 3) := by decide +kernel
theorem dL_law_891 : decode cL_law 891 = .ok (.if_icmp .eq 97, 3) := by decide +kernel
theorem dL_law_894 : decode cL_law 894 = .ok (.iconst 0, 1) := by decide +kernel
theorem dL_law_895 : decode cL_law 895 = .ok (.ireturn, 1) := by decide +kernel
theorem dL_law_896 : decode cL_law 896 = .ok (.aload_n 1, 1) := by decide +kernel
theorem dL_law_897 : decode cL_law 897 = .ok (.aload_n 0, 1) := by decide +kernel
theorem dL_law_898 : decode cL_law 898 = .ok (.iload_n 3, 1) := by decide +kernel
theorem dL_law_899 : decode cL_law 899 = .ok (.iconst 1, 1) := by decide +kernel
theorem dL_law_900 : decode cL_law 900 = .ok (.iadd, 1) := by decide +kernel
theorem dL_law_901 : decode cL_law 901 = .ok (.iaload, 1) := by decide +kernel
theorem dL_law_902 : decode cL_law 902 = .ok (.invokevirtual 124, 3) := by decide +kernel
theorem dL_law_905 : decode cL_law 905 = .ok (.aload_n 2, 1) := by decide +kernel
theorem dL_law_906 : decode cL_law 906 = .ok (.aload_n 0, 1) := by decide +kernel
theorem dL_law_907 : decode cL_law 907 = .ok (.iload_n 3, 1) := by decide +kernel
theorem dL_law_908 : decode cL_law 908 = .ok (.iconst 1, 1) := by decide +kernel
theorem dL_law_909 : decode cL_law 909 = .ok (.iadd, 1) := by decide +kernel
theorem dL_law_910 : decode cL_law 910 = .ok (.iaload, 1) := by decide +kernel
theorem dL_law_911 : decode cL_law 911 = .ok (.invokevirtual 127, 3) := by decide +kernel
theorem dL_law_914 : decode cL_law 914 = .ok (.if_icmp .eq 74, 3) := by decide +kernel
theorem dL_law_917 : decode cL_law 917 = .ok (.iconst 0, 1) := by decide +kernel
theorem dL_law_918 : decode cL_law 918 = .ok (.ireturn, 1) := by decide +kernel
theorem dL_law_919 : decode cL_law 919 = .ok (.aload_n 1, 1) := by decide +kernel
theorem dL_law_920 : decode cL_law 920 = .ok (.aload_n 0, 1) := by decide +kernel
theorem dL_law_921 : decode cL_law 921 = .ok (.iload_n 3, 1) := by decide +kernel
theorem dL_law_922 : decode cL_law 922 = .ok (.iconst 1, 1) := by decide +kernel
theorem dL_law_923 : decode cL_law 923 = .ok (.iadd, 1) := by decide +kernel
theorem dL_law_924 : decode cL_law 924 = .ok (.iaload, 1) := by decide +kernel
theorem dL_law_925 : decode cL_law 925 = .ok (.invokevirtual 128, 3) := by decide +kernel
theorem dL_law_928 : decode cL_law 928 = .ok (.aload_n 2, 1) := by decide +kernel
theorem dL_law_929 : decode cL_law 929 = .ok (.aload_n 0, 1) := by decide +kernel
theorem dL_law_930 : decode cL_law 930 = .ok (.iload_n 3, 1) := by decide +kernel
theorem dL_law_931 : decode cL_law 931 = .ok (.iconst 1, 1) := by decide +kernel
theorem dL_law_932 : decode cL_law 932 = .ok (.iadd, 1) := by decide +kernel
theorem dL_law_933 : decode cL_law 933 = .ok (.iaload, 1) := by decide +kernel
theorem dL_law_934 : decode cL_law 934 = .ok (.invokevirtual 131, 3) := by decide +kernel
theorem dL_law_937 : decode cL_law 937 = .ok (.if_icmp .eq 51, 3) := by decide +kernel
theorem dL_law_940 : decode cL_law 940 = .ok (.iconst 0, 1) := by decide +kernel
theorem dL_law_941 : decode cL_law 941 = .ok (.ireturn, 1) := by decide +kernel
theorem dL_law_942 : decode cL_law 942 = .ok (.aload_n 1, 1) := by decide +kernel
theorem dL_law_943 : decode cL_law 943 = .ok (.aload_n 0, 1) := by decide +kernel
theorem dL_law_944 : decode cL_law 944 = .ok (.iload_n 3, 1) := by decide +kernel
theorem dL_law_945 : decode cL_law 945 = .ok (.iconst 1, 1) := by decide +kernel
theorem dL_law_946 : decode cL_law 946 = .ok (.iadd, 1) := by decide +kernel
theorem dL_law_947 : decode cL_law 947 = .ok (.iaload, 1) := by decide +kernel
theorem dL_law_948 : decode cL_law 948 = .ok (.invokevirtual 132, 3) := by decide +kernel
theorem dL_law_951 : decode cL_law 951 = .ok (.aload_n 2, 1) := by decide +kernel
theorem dL_law_952 : decode cL_law 952 = .ok (.aload_n 0, 1) := by decide +kernel
theorem dL_law_953 : decode cL_law 953 = .ok (.iload_n 3, 1) := by decide +kernel
theorem dL_law_954 : decode cL_law 954 = .ok (.iconst 1, 1) := by decide +kernel
theorem dL_law_955 : decode cL_law 955 = .ok (.iadd, 1) := by decide +kernel
theorem dL_law_956 : decode cL_law 956 = .ok (.iaload, 1) := by decide +kernel
theorem dL_law_957 : decode cL_law 957 = .ok (.invokevirtual 135, 3) := by decide +kernel
theorem dL_law_960 : decode cL_law 960 = .ok (.if_icmp .eq 28, 3) := by decide +kernel
theorem dL_law_963 : decode cL_law 963 = .ok (.iconst 0, 1) := by decide +kernel
theorem dL_law_964 : decode cL_law 964 = .ok (.ireturn, 1) := by decide +kernel
theorem dL_law_965 : decode cL_law 965 = .ok (.aload_n 1, 1) := by decide +kernel
theorem dL_law_966 : decode cL_law 966 = .ok (.aload_n 0, 1) := by decide +kernel
theorem dL_law_967 : decode cL_law 967 = .ok (.iload_n 3, 1) := by decide +kernel
theorem dL_law_968 : decode cL_law 968 = .ok (.iconst 1, 1) := by decide +kernel
theorem dL_law_969 : decode cL_law 969 = .ok (.iadd, 1) := by decide +kernel
theorem dL_law_970 : decode cL_law 970 = .ok (.iaload, 1) := by decide +kernel
theorem dL_law_971 : decode cL_law 971 = .ok (.invokevirtual 136, 3) := by decide +kernel
theorem dL_law_974 : decode cL_law 974 = .ok (.aload_n 2, 1) := by decide +kernel
theorem dL_law_975 : decode cL_law 975 = .ok (.aload_n 0, 1) := by decide +kernel
theorem dL_law_976 : decode cL_law 976 = .ok (.iload_n 3, 1) := by decide +kernel
theorem dL_law_977 : decode cL_law 977 = .ok (.iconst 1, 1) := by decide +kernel
theorem dL_law_978 : decode cL_law 978 = .ok (.iadd, 1) := by decide +kernel
theorem dL_law_979 : decode cL_law 979 = .ok (.iaload, 1) := by decide +kernel
theorem dL_law_980 : decode cL_law 980 = .ok (.invokevirtual 139, 3) := by decide +kernel
theorem dL_law_983 : decode cL_law 983 = .ok (.if_icmp .eq 5, 3) := by decide +kernel
theorem dL_law_986 : decode cL_law 986 = .ok (.iconst 0, 1) := by decide +kernel
theorem dL_law_987 : decode cL_law 987 = .ok (.ireturn, 1) := by decide +kernel
theorem dL_law_988 : decode cL_law 988 = .ok (.iinc 3 4, 3) := by decide +kernel
theorem dL_law_991 : decode cL_law 991 = .ok (.goto (-973), 3) := by decide +kernel
theorem dL_law_994 : decode cL_law 994 = .ok (.iconst 1, 1) := by decide +kernel
theorem dL_law_995 : decode cL_law 995 = .ok (.ireturn, 1) := by decide +kernel
