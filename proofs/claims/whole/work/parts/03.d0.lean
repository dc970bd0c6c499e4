theorem dX0_init_0 : decode cX0_init 0 = .ok (.aload_n 0, 1) := by decide +kernel
theorem dX0_init_1 : decode cX0_init 1 = .ok (.invokespecial 3, 3) := by decide +kernel
theorem dX0_init_4 : decode cX0_init 4 = .ok (.aload_n 0, 1) := by decide +kernel
theorem dX0_init_5 : decode cX0_init 5 = .ok (.aload_n 1, 1) := by decide +kernel
theorem dX0_init_6 : decode cX0_init 6 = .ok (.putfield 9, 3) := by decide +kernel
theorem dX0_init_9 : decode cX0_init 9 = .ok (.aload_n 0, 1) := by decide +kernel
theorem dX0_init_10 : decode cX0_init 10 = .ok (.aload_n 2, 1) := by decide +kernel
theorem dX0_init_11 : decode cX0_init 11 = .ok (.putfield 15, 3) := by decide +kernel
theorem dX0_init_14 : decode cX0_init 14 = .ok (.return_, 1) := by decide +kernel
theorem dX0_suit_0 : decode cX0_suit 0 = .ok (.aload_n 0, 1) := by decide +kernel
theorem dX0_suit_1 : decode cX0_suit 1 = .ok (.aload_n 1, 1) := by decide +kernel
theorem dX0_suit_2 : decode cX0_suit 2 = .ok (.iconst 0, 1) := by decide +kernel
theorem dX0_suit_3 : decode cX0_suit 3 = .ok (.invokevirtual 19, 3) := by decide +kernel
theorem dX0_suit_6 : decode cX0_suit 6 = .ok (.putfield 25, 3) := by decide +kernel
theorem dX0_suit_9 : decode cX0_suit 9 = .ok (.aload_n 0, 1) := by decide +kernel
theorem dX0_suit_10 : decode cX0_suit 10 = .ok (.aload_n 1, 1) := by decide +kernel
theorem dX0_suit_11 : decode cX0_suit 11 = .ok (.iconst 1, 1) := by decide +kernel
theorem dX0_suit_12 : decode cX0_suit 12 = .ok (.invokevirtual 19, 3) := by decide +kernel
theorem dX0_suit_15 : decode cX0_suit 15 = .ok (.putfield 29, 3) := by decide +kernel
theorem dX0_suit_18 : decode cX0_suit 18 = .ok (.aload_n 0, 1) := by decide +kernel
theorem dX0_suit_19 : decode cX0_suit 19 = .ok (.aload_n 1, 1) := by decide +kernel
theorem dX0_suit_20 : decode cX0_suit 20 = .ok (.iconst 2, 1) := by decide +kernel
theorem dX0_suit_21 : decode cX0_suit 21 = .ok (.invokevirtual 19, 3) := by decide +kernel
theorem dX0_suit_24 : decode cX0_suit 24 = .ok (.putfield 32, 3) := by decide +kernel
theorem dX0_suit_27 : decode cX0_suit 27 = .ok (.aload_n 0, 1) := by decide +kernel
theorem dX0_suit_28 : decode cX0_suit 28 = .ok (.aload_n 1, 1) := by decide +kernel
theorem dX0_suit_29 : decode cX0_suit 29 = .ok (.iconst 3, 1) := by decide +kernel
theorem dX0_suit_30 : decode cX0_suit 30 = .ok (.invokevirtual 19, 3) := by decide +kernel
theorem dX0_suit_33 : decode cX0_suit 33 = .ok (.putfield 35, 3) := by decide +kernel
theorem dX0_suit_36 : decode cX0_suit 36 = .ok (.aload_n 0, 1) := by decide +kernel
theorem dX0_suit_37 : decode cX0_suit 37 = .ok (.aload_n 1, 1) := by decide +kernel
theorem dX0_suit_38 : decode cX0_suit 38 = .ok (.iconst 4, 1) := by decide +kernel
theorem dX0_suit_39 : decode cX0_suit 39 = .ok (.invokevirtual 19, 3) := by decide +kernel
theorem dX0_suit_42 : decode cX0_suit 42 = .ok (.putfield 38, 3) := by decide +kernel
theorem dX0_suit_45 : decode cX0_suit 45 = .ok (.return_, 1) := by decide +kernel
theorem dX0_hold_0 : decode cX0_hold 0 = .ok (.sipush 1000, 3) := by decide +kernel
theorem dX0_hold_3 : decode cX0_hold 3 = .ok (.istore_n 1, 1) := by decide +kernel
theorem dX0_hold_4 : decode cX0_hold 4 = .ok (.aload_n 0, 1) := by decide +kernel
theorem dX0_hold_5 : decode cX0_hold 5 = .ok (.sipush 200, 3) := by decide +kernel
theorem dX0_hold_8 : decode cX0_hold 8 = .ok (.putfield 41, 3) := by decide +kernel
theorem dX0_hold_11 : decode cX0_hold 11 = .ok (.aload_n 0, 1) := by decide +kernel
theorem dX0_hold_12 : decode cX0_hold 12 = .ok (.iconst 0, 1) := by decide +kernel
theorem dX0_hold_13 : decode cX0_hold 13 = .ok (.putfield 44, 3) := by decide +kernel
theorem dX0_hold_16 : decode cX0_hold 16 = .ok (.iconst 1, 1) := by decide +kernel
theorem dX0_hold_17 : decode cX0_hold 17 = .ok (.istore_n 2, 1) := by decide +kernel
theorem dX0_hold_18 : decode cX0_hold 18 = .ok (.iload_n 2, 1) := by decide +kernel
theorem dX0_hold_19 : decode cX0_hold 19 = .ok (.sipush 200, 3) := by decide +kernel
theorem dX0_hold_22 : decode cX0_hold 22 = .ok (.if_icmp .gt 62, 3) := by decide +kernel
theorem dX0_hold_25 : decode cX0_hold 25 = .ok (.aload_n 0, 1) := by decide +kernel
theorem dX0_hold_26 : decode cX0_hold 26 = .ok (.getfield 15, 3) := by decide +kernel
theorem dX0_hold_29 : decode cX0_hold 29 = .ok (.iload_n 2, 1) := by decide +kernel
theorem dX0_hold_30 : decode cX0_hold 30 = .ok (.aload_n 0, 1) := by decide +kernel
theorem dX0_hold_31 : decode cX0_hold 31 = .ok (.getfield 25, 3) := by decide +kernel
theorem dX0_hold_34 : decode cX0_hold 34 = .ok (.invokevirtual 47, 3) := by decide +kernel
theorem dX0_hold_37 : decode cX0_hold 37 = .ok (.istore_n 3, 1) := by decide +kernel
theorem dX0_hold_38 : decode cX0_hold 38 = .ok (.iload_n 1, 1) := by decide +kernel
theorem dX0_hold_39 : decode cX0_hold 39 = .ok (.bipush 20, 2) := by decide +kernel
theorem dX0_hold_41 : decode cX0_hold 41 = .ok (.iload_n 3, 1) := by decide +kernel
theorem dX0_hold_42 : decode cX0_hold 42 = .ok (.imul, 1) := by decide +kernel
theorem dX0_hold_43 : decode cX0_hold 43 = .ok (.aload_n 0, 1) := by decide +kernel
theorem dX0_hold_44 : decode cX0_hold 44 = .ok (.getfield 32, 3) := by decide +kernel
theorem dX0_hold_47 : decode cX0_hold 47 = .ok (.invokestatic 53, 3) := by decide +kernel
theorem dX0_hold_50 : decode cX0_hold 50 = .ok (.isub, 1) := by decide +kernel
theorem dX0_hold_51 : decode cX0_hold 51 = .ok (.istore_n 1, 1) := by decide +kernel
theorem dX0_hold_52 : decode cX0_hold 52 = .ok (.aload_n 0, 1) := by decide +kernel
theorem dX0_hold_53 : decode cX0_hold 53 = .ok (.iload_n 2, 1) := by decide +kernel
theorem dX0_hold_54 : decode cX0_hold 54 = .ok (.iload_n 3, 1) := by decide +kernel
theorem dX0_hold_55 : decode cX0_hold 55 = .ok (.iload_n 1, 1) := by decide +kernel
theorem dX0_hold_56 : decode cX0_hold 56 = .ok (.invokevirtual 56, 3) := by decide +kernel
theorem dX0_hold_59 : decode cX0_hold 59 = .ok (.istore 4, 2) := by decide +kernel
theorem dX0_hold_61 : decode cX0_hold 61 = .ok (.iload 4, 2) := by decide +kernel
theorem dX0_hold_63 : decode cX0_hold 63 = .ok (.ifCond .eq 15, 3) := by decide +kernel
theorem dX0_hold_66 : decode cX0_hold 66 = .ok (.aload_n 0, 1) := by decide +kernel
theorem dX0_hold_67 : decode cX0_hold 67 = .ok (.iload_n 2, 1) := by decide +kernel
theorem dX0_hold_68 : decode cX0_hold 68 = .ok (.putfield 41, 3) := by decide +kernel
theorem dX0_hold_71 : decode cX0_hold 71 = .ok (.aload_n 0, 1) := by decide +kernel
theorem dX0_hold_72 : decode cX0_hold 72 = .ok (.iload 4, 2) := by decide +kernel
theorem dX0_hold_74 : decode cX0_hold 74 = .ok (.putfield 44, 3) := by decide +kernel
theorem dX0_hold_77 : decode cX0_hold 77 = .ok (.return_, 1) := by decide +kernel
theorem dX0_hold_78 : decode cX0_hold 78 = .ok (.iinc 2 1, 3) := by decide +kernel
theorem dX0_hold_81 : decode cX0_hold 81 = .ok (.goto (-63), 3) := by decide +kernel
theorem dX0_hold_84 : decode cX0_hold 84 = .ok (.return_, 1) := by decide +kernel
theorem dX0_stopsBehind_0 : decode cX0_stopsBehind 0 = .ok (.iload_n 2, 1) := by decide +kernel
theorem dX0_stopsBehind_1 : decode cX0_stopsBehind 1 = .ok (.aload_n 0, 1) := by decide +kernel
theorem dX0_stopsBehind_2 : decode cX0_stopsBehind 2 = .ok (.getfield 60, 3) := by decide +kernel
theorem dX0_stopsBehind_5 : decode cX0_stopsBehind 5 = .ok (.if_icmp .le 6, 3) := by decide +kernel
theorem dX0_stopsBehind_8 : decode cX0_stopsBehind 8 = .ok (.bipush 7, 2) := by decide +kernel
theorem dX0_stopsBehind_10 : decode cX0_stopsBehind 10 = .ok (.ireturn, 1) := by decide +kernel
theorem dX0_stopsBehind_11 : decode cX0_stopsBehind 11 = .ok (.iload_n 3, 1) := by decide +kernel
theorem dX0_stopsBehind_12 : decode cX0_stopsBehind 12 = .ok (.ifCond .ge 5, 3) := by decide +kernel
theorem dX0_stopsBehind_15 : decode cX0_stopsBehind 15 = .ok (.iconst 5, 1) := by decide +kernel
theorem dX0_stopsBehind_16 : decode cX0_stopsBehind 16 = .ok (.ireturn, 1) := by decide +kernel
theorem dX0_stopsBehind_17 : decode cX0_stopsBehind 17 = .ok (.aload_n 0, 1) := by decide +kernel
theorem dX0_stopsBehind_18 : decode cX0_stopsBehind 18 = .ok (.getfield 15, 3) := by decide +kernel
theorem dX0_stopsBehind_21 : decode cX0_stopsBehind 21 = .ok (.iload_n 1, 1) := by decide +kernel
theorem dX0_stopsBehind_22 : decode cX0_stopsBehind 22 = .ok (.invokevirtual 63, 3) := by decide +kernel
theorem dX0_stopsBehind_25 : decode cX0_stopsBehind 25 = .ok (.istore 4, 2) := by decide +kernel
theorem dX0_stopsBehind_27 : decode cX0_stopsBehind 27 = .ok (.aload_n 0, 1) := by decide +kernel
theorem dX0_stopsBehind_28 : decode cX0_stopsBehind 28 = .ok (.getfield 15, 3) := by decide +kernel
theorem dX0_stopsBehind_31 : decode cX0_stopsBehind 31 = .ok (.iload_n 1, 1) := by decide +kernel
theorem dX0_stopsBehind_32 : decode cX0_stopsBehind 32 = .ok (.invokevirtual 66, 3) := by decide +kernel
theorem dX0_stopsBehind_35 : decode cX0_stopsBehind 35 = .ok (.ifCond .ge 21, 3) := by decide +kernel
theorem dX0_stopsBehind_38 : decode cX0_stopsBehind 38 = .ok (.iload 4, 2) := by decide +kernel
theorem dX0_stopsBehind_40 : decode cX0_stopsBehind 40 = .ok (.aload_n 0, 1) := by decide +kernel
theorem dX0_stopsBehind_41 : decode cX0_stopsBehind 41 = .ok (.getfield 9, 3) := by decide +kernel
theorem dX0_stopsBehind_44 : decode cX0_stopsBehind 44 = .ok (.bipush 6, 2) := by decide +kernel
theorem dX0_stopsBehind_46 : decode cX0_stopsBehind 46 = .ok (.invokevirtual 69, 3) := by decide +kernel
theorem dX0_stopsBehind_49 : decode cX0_stopsBehind 49 = .ok (.ineg, 1) := by decide +kernel
theorem dX0_stopsBehind_50 : decode cX0_stopsBehind 50 = .ok (.if_icmp .ge 6, 3) := by decide +kernel
theorem dX0_stopsBehind_53 : decode cX0_stopsBehind 53 = .ok (.bipush 6, 2) := by decide +kernel
theorem dX0_stopsBehind_55 : decode cX0_stopsBehind 55 = .ok (.ireturn, 1) := by decide +kernel
theorem dX0_stopsBehind_56 : decode cX0_stopsBehind 56 = .ok (.aload_n 0, 1) := by decide +kernel
theorem dX0_stopsBehind_57 : decode cX0_stopsBehind 57 = .ok (.getfield 15, 3) := by decide +kernel
theorem dX0_stopsBehind_60 : decode cX0_stopsBehind 60 = .ok (.iload_n 1, 1) := by decide +kernel
theorem dX0_stopsBehind_61 : decode cX0_stopsBehind 61 = .ok (.invokevirtual 72, 3) := by decide +kernel
theorem dX0_stopsBehind_64 : decode cX0_stopsBehind 64 = .ok (.aload_n 0, 1) := by decide +kernel
theorem dX0_stopsBehind_65 : decode cX0_stopsBehind 65 = .ok (.getfield 29, 3) := by decide +kernel
theorem dX0_stopsBehind_68 : decode cX0_stopsBehind 68 = .ok (.isub, 1) := by decide +kernel
theorem dX0_stopsBehind_69 : decode cX0_stopsBehind 69 = .ok (.aload_n 0, 1) := by decide +kernel
theorem dX0_stopsBehind_70 : decode cX0_stopsBehind 70 = .ok (.getfield 75, 3) := by decide +kernel
theorem dX0_stopsBehind_73 : decode cX0_stopsBehind 73 = .ok (.ineg, 1) := by decide +kernel
theorem dX0_stopsBehind_74 : decode cX0_stopsBehind 74 = .ok (.if_icmp .ge 7, 3) := by decide +kernel
theorem dX0_stopsBehind_77 : decode cX0_stopsBehind 77 = .ok (.iconst 1, 1) := by decide +kernel
theorem dX0_stopsBehind_78 : decode cX0_stopsBehind 78 = .ok (.goto 4, 3) := by decide +kernel
theorem dX0_stopsBehind_81 : decode cX0_stopsBehind 81 = .ok (.iconst 0, 1) := by decide +kernel
theorem dX0_stopsBehind_82 : decode cX0_stopsBehind 82 = .ok (.istore 5, 2) := by decide +kernel
theorem dX0_stopsBehind_84 : decode cX0_stopsBehind 84 = .ok (.iload 5, 2) := by decide +kernel
theorem dX0_stopsBehind_86 : decode cX0_stopsBehind 86 = .ok (.ifCond .eq 23, 3) := by decide +kernel
theorem dX0_stopsBehind_89 : decode cX0_stopsBehind 89 = .ok (.aload_n 0, 1) := by decide +kernel
theorem dX0_stopsBehind_90 : decode cX0_stopsBehind 90 = .ok (.getfield 9, 3) := by decide +kernel
theorem dX0_stopsBehind_93 : decode cX0_stopsBehind 93 = .ok (.iload 4, 2) := by decide +kernel
theorem dX0_stopsBehind_95 : decode cX0_stopsBehind 95 = .ok (.invokestatic 78, 3) := by decide +kernel
theorem dX0_stopsBehind_98 : decode cX0_stopsBehind 98 = .ok (.invokevirtual 81, 3) := by decide +kernel
theorem dX0_stopsBehind_101 : decode cX0_stopsBehind 101 = .ok (.ifCond .ne 8, 3) := by decide +kernel
theorem dX0_stopsBehind_104 : decode cX0_stopsBehind 104 = .ok (.bipush 8, 2) := by decide +kernel
theorem dX0_stopsBehind_106 : decode cX0_stopsBehind 106 = .ok (.goto 4, 3) := by decide +kernel
theorem dX0_stopsBehind_109 : decode cX0_stopsBehind 109 = .ok (.iconst 0, 1) := by decide +kernel
theorem dX0_stopsBehind_110 : decode cX0_stopsBehind 110 = .ok (.ireturn, 1) := by decide +kernel
theorem dX0_canLetGo_0 : decode cX0_canLetGo 0 = .ok (.iload_n 1, 1) := by decide +kernel
theorem dX0_canLetGo_1 : decode cX0_canLetGo 1 = .ok (.aload_n 0, 1) := by decide +kernel
theorem dX0_canLetGo_2 : decode cX0_canLetGo 2 = .ok (.getfield 41, 3) := by decide +kernel
theorem dX0_canLetGo_5 : decode cX0_canLetGo 5 = .ok (.if_icmp .lt 28, 3) := by decide +kernel
theorem dX0_canLetGo_8 : decode cX0_canLetGo 8 = .ok (.iload_n 1, 1) := by decide +kernel
theorem dX0_canLetGo_9 : decode cX0_canLetGo 9 = .ok (.aload_n 0, 1) := by decide +kernel
theorem dX0_canLetGo_10 : decode cX0_canLetGo 10 = .ok (.getfield 41, 3) := by decide +kernel
theorem dX0_canLetGo_13 : decode cX0_canLetGo 13 = .ok (.if_icmp .ne 24, 3) := by decide +kernel
theorem dX0_canLetGo_16 : decode cX0_canLetGo 16 = .ok (.aload_n 0, 1) := by decide +kernel
theorem dX0_canLetGo_17 : decode cX0_canLetGo 17 = .ok (.getfield 44, 3) := by decide +kernel
theorem dX0_canLetGo_20 : decode cX0_canLetGo 20 = .ok (.bipush 7, 2) := by decide +kernel
theorem dX0_canLetGo_22 : decode cX0_canLetGo 22 = .ok (.if_icmp .eq 15, 3) := by decide +kernel
theorem dX0_canLetGo_25 : decode cX0_canLetGo 25 = .ok (.aload_n 0, 1) := by decide +kernel
theorem dX0_canLetGo_26 : decode cX0_canLetGo 26 = .ok (.getfield 44, 3) := by decide +kernel
theorem dX0_canLetGo_29 : decode cX0_canLetGo 29 = .ok (.iconst 5, 1) := by decide +kernel
theorem dX0_canLetGo_30 : decode cX0_canLetGo 30 = .ok (.if_icmp .eq 7, 3) := by decide +kernel
theorem dX0_canLetGo_33 : decode cX0_canLetGo 33 = .ok (.iconst 1, 1) := by decide +kernel
theorem dX0_canLetGo_34 : decode cX0_canLetGo 34 = .ok (.goto 4, 3) := by decide +kernel
theorem dX0_canLetGo_37 : decode cX0_canLetGo 37 = .ok (.iconst 0, 1) := by decide +kernel
theorem dX0_canLetGo_38 : decode cX0_canLetGo 38 = .ok (.ireturn, 1) := by decide +kernel
theorem dX0_letGo_0 : decode cX0_letGo 0 = .ok (.aload_n 0, 1) := by decide +kernel
theorem dX0_letGo_1 : decode cX0_letGo 1 = .ok (.iload_n 1, 1) := by decide +kernel
theorem dX0_letGo_2 : decode cX0_letGo 2 = .ok (.invokevirtual 84, 3) := by decide +kernel
theorem dX0_letGo_5 : decode cX0_letGo 5 = .ok (.ifCond .eq 11, 3) := by decide +kernel
theorem dX0_letGo_8 : decode cX0_letGo 8 = .ok (.aload_n 0, 1) := by decide +kernel
theorem dX0_letGo_9 : decode cX0_letGo 9 = .ok (.iload_n 1, 1) := by decide +kernel
theorem dX0_letGo_10 : decode cX0_letGo 10 = .ok (.invokevirtual 88, 3) := by decide +kernel
theorem dX0_letGo_13 : decode cX0_letGo 13 = .ok (.goto 84, 3) := by decide +kernel
theorem dX0_letGo_16 : decode cX0_letGo 16 = .ok (.aload_n 0, 1) := by decide +kernel
theorem dX0_letGo_17 : decode cX0_letGo 17 = .ok (.getfield 44, 3) := by decide +kernel
theorem dX0_letGo_20 : decode cX0_letGo 20 = .ok (.iconst 5, 1) := by decide +kernel
theorem dX0_letGo_21 : decode cX0_letGo 21 = .ok (.if_icmp .ne 30, 3) := by decide +kernel
theorem dX0_letGo_24 : decode cX0_letGo 24 = .ok (.aload_n 0, 1) := by decide +kernel
theorem dX0_letGo_25 : decode cX0_letGo 25 = .ok (.aload_n 0, 1) := by decide +kernel
theorem dX0_letGo_26 : decode cX0_letGo 26 = .ok (.getfield 41, 3) := by decide +kernel
theorem dX0_letGo_29 : decode cX0_letGo 29 = .ok (.invokevirtual 88, 3) := by decide +kernel
theorem dX0_letGo_32 : decode cX0_letGo 32 = .ok (.aload_n 0, 1) := by decide +kernel
theorem dX0_letGo_33 : decode cX0_letGo 33 = .ok (.aload_n 0, 1) := by decide +kernel
theorem dX0_letGo_34 : decode cX0_letGo 34 = .ok (.getfield 92, 3) := by decide +kernel
theorem dX0_letGo_37 : decode cX0_letGo 37 = .ok (.ifCond .ne 7, 3) := by decide +kernel
theorem dX0_letGo_40 : decode cX0_letGo 40 = .ok (.iconst 0, 1) := by decide +kernel
theorem dX0_letGo_41 : decode cX0_letGo 41 = .ok (.goto 4, 3) := by decide +kernel
theorem dX0_letGo_44 : decode cX0_letGo 44 = .ok (.iconst 5, 1) := by decide +kernel
theorem dX0_letGo_45 : decode cX0_letGo 45 = .ok (.putfield 92, 3) := by decide +kernel
theorem dX0_letGo_48 : decode cX0_letGo 48 = .ok (.goto 49, 3) := by decide +kernel
theorem dX0_letGo_51 : decode cX0_letGo 51 = .ok (.aload_n 0, 1) := by decide +kernel
theorem dX0_letGo_52 : decode cX0_letGo 52 = .ok (.aload_n 0, 1) := by decide +kernel
theorem dX0_letGo_53 : decode cX0_letGo 53 = .ok (.getfield 41, 3) := by decide +kernel
theorem dX0_letGo_56 : decode cX0_letGo 56 = .ok (.putfield 95, 3) := by decide +kernel
theorem dX0_letGo_59 : decode cX0_letGo 59 = .ok (.aload_n 0, 1) := by decide +kernel
theorem dX0_letGo_60 : decode cX0_letGo 60 = .ok (.aload_n 0, 1) := by decide +kernel
theorem dX0_letGo_61 : decode cX0_letGo 61 = .ok (.getfield 15, 3) := by decide +kernel
theorem dX0_letGo_64 : decode cX0_letGo 64 = .ok (.aload_n 0, 1) := by decide +kernel
theorem dX0_letGo_65 : decode cX0_letGo 65 = .ok (.getfield 41, 3) := by decide +kernel
theorem dX0_letGo_68 : decode cX0_letGo 68 = .ok (.invokevirtual 63, 3) := by decide +kernel
theorem dX0_letGo_71 : decode cX0_letGo 71 = .ok (.putfield 98, 3) := by decide +kernel
theorem dX0_letGo_74 : decode cX0_letGo 74 = .ok (.aload_n 0, 1) := by decide +kernel
theorem dX0_letGo_75 : decode cX0_letGo 75 = .ok (.iconst 0, 1) := by decide +kernel
theorem dX0_letGo_76 : decode cX0_letGo 76 = .ok (.putfield 101, 3) := by decide +kernel
theorem dX0_letGo_79 : decode cX0_letGo 79 = .ok (.aload_n 0, 1) := by decide +kernel
theorem dX0_letGo_80 : decode cX0_letGo 80 = .ok (.iconst 0, 1) := by decide +kernel
theorem dX0_letGo_81 : decode cX0_letGo 81 = .ok (.putfield 104, 3) := by decide +kernel
theorem dX0_letGo_84 : decode cX0_letGo 84 = .ok (.aload_n 0, 1) := by decide +kernel
theorem dX0_letGo_85 : decode cX0_letGo 85 = .ok (.iconst 0, 1) := by decide +kernel
theorem dX0_letGo_86 : decode cX0_letGo 86 = .ok (.putfield 107, 3) := by decide +kernel
theorem dX0_letGo_89 : decode cX0_letGo 89 = .ok (.aload_n 0, 1) := by decide +kernel
theorem dX0_letGo_90 : decode cX0_letGo 90 = .ok (.aload_n 0, 1) := by decide +kernel
theorem dX0_letGo_91 : decode cX0_letGo 91 = .ok (.getfield 44, 3) := by decide +kernel
theorem dX0_letGo_94 : decode cX0_letGo 94 = .ok (.putfield 92, 3) := by decide +kernel
theorem dX0_letGo_97 : decode cX0_letGo 97 = .ok (.return_, 1) := by decide +kernel
theorem dX0_fly_0 : decode cX0_fly 0 = .ok (.aload_n 0, 1) := by decide +kernel
theorem dX0_fly_1 : decode cX0_fly 1 = .ok (.iload_n 1, 1) := by decide +kernel
theorem dX0_fly_2 : decode cX0_fly 2 = .ok (.putfield 95, 3) := by decide +kernel
theorem dX0_fly_5 : decode cX0_fly 5 = .ok (.bipush 100, 2) := by decide +kernel
theorem dX0_fly_7 : decode cX0_fly 7 = .ok (.aload_n 0, 1) := by decide +kernel
theorem dX0_fly_8 : decode cX0_fly 8 = .ok (.getfield 15, 3) := by decide +kernel
theorem dX0_fly_11 : decode cX0_fly 11 = .ok (.iload_n 1, 1) := by decide +kernel
theorem dX0_fly_12 : decode cX0_fly 12 = .ok (.invokevirtual 63, 3) := by decide +kernel
theorem dX0_fly_15 : decode cX0_fly 15 = .ok (.imul, 1) := by decide +kernel
theorem dX0_fly_16 : decode cX0_fly 16 = .ok (.istore_n 2, 1) := by decide +kernel
theorem dX0_fly_17 : decode cX0_fly 17 = .ok (.bipush 100, 2) := by decide +kernel
theorem dX0_fly_19 : decode cX0_fly 19 = .ok (.aload_n 0, 1) := by decide +kernel
theorem dX0_fly_20 : decode cX0_fly 20 = .ok (.getfield 15, 3) := by decide +kernel
theorem dX0_fly_23 : decode cX0_fly 23 = .ok (.iload_n 1, 1) := by decide +kernel
theorem dX0_fly_24 : decode cX0_fly 24 = .ok (.invokevirtual 72, 3) := by decide +kernel
theorem dX0_fly_27 : decode cX0_fly 27 = .ok (.aload_n 0, 1) := by decide +kernel
theorem dX0_fly_28 : decode cX0_fly 28 = .ok (.getfield 29, 3) := by decide +kernel
theorem dX0_fly_31 : decode cX0_fly 31 = .ok (.isub, 1) := by decide +kernel
theorem dX0_fly_32 : decode cX0_fly 32 = .ok (.imul, 1) := by decide +kernel
theorem dX0_fly_33 : decode cX0_fly 33 = .ok (.istore_n 3, 1) := by decide +kernel
theorem dX0_fly_34 : decode cX0_fly 34 = .ok (.aload_n 0, 1) := by decide +kernel
theorem dX0_fly_35 : decode cX0_fly 35 = .ok (.getfield 15, 3) := by decide +kernel
theorem dX0_fly_38 : decode cX0_fly 38 = .ok (.iload_n 1, 1) := by decide +kernel
theorem dX0_fly_39 : decode cX0_fly 39 = .ok (.invokevirtual 110, 3) := by decide +kernel
theorem dX0_fly_42 : decode cX0_fly 42 = .ok (.istore 4, 2) := by decide +kernel
theorem dX0_fly_44 : decode cX0_fly 44 = .ok (.aload_n 0, 1) := by decide +kernel
theorem dX0_fly_45 : decode cX0_fly 45 = .ok (.getfield 15, 3) := by decide +kernel
theorem dX0_fly_48 : decode cX0_fly 48 = .ok (.iload_n 1, 1) := by decide +kernel
theorem dX0_fly_49 : decode cX0_fly 49 = .ok (.invokevirtual 113, 3) := by decide +kernel
theorem dX0_fly_52 : decode cX0_fly 52 = .ok (.istore 5, 2) := by decide +kernel
theorem dX0_fly_54 : decode cX0_fly 54 = .ok (.iload_n 3, 1) := by decide +kernel
theorem dX0_fly_55 : decode cX0_fly 55 = .ok (.istore 6, 2) := by decide +kernel
theorem dX0_fly_57 : decode cX0_fly 57 = .ok (.iconst 0, 1) := by decide +kernel
theorem dX0_fly_58 : decode cX0_fly 58 = .ok (.istore 7, 2) := by decide +kernel
theorem dX0_fly_60 : decode cX0_fly 60 = .ok (.iconst 0, 1) := by decide +kernel
theorem dX0_fly_61 : decode cX0_fly 61 = .ok (.istore 8, 2) := by decide +kernel
theorem dX0_fly_63 : decode cX0_fly 63 = .ok (.iload 7, 2) := by decide +kernel
theorem dX0_fly_65 : decode cX0_fly 65 = .ok (.sipush 400, 3) := by decide +kernel
theorem dX0_fly_68 : decode cX0_fly 68 = .ok (.if_icmp .ge 84, 3) := by decide +kernel
theorem dX0_fly_71 : decode cX0_fly 71 = .ok (.iload 8, 2) := by decide +kernel
theorem dX0_fly_73 : decode cX0_fly 73 = .ok (.ifCond .ne 79, 3) := by decide +kernel
theorem dX0_fly_76 : decode cX0_fly 76 = .ok (.iinc 7 1, 3) := by decide +kernel
theorem dX0_fly_79 : decode cX0_fly 79 = .ok (.iload_n 2, 1) := by decide +kernel
theorem dX0_fly_80 : decode cX0_fly 80 = .ok (.iload 4, 2) := by decide +kernel
theorem dX0_fly_82 : decode cX0_fly 82 = .ok (.iadd, 1) := by decide +kernel
theorem dX0_fly_83 : decode cX0_fly 83 = .ok (.istore_n 2, 1) := by decide +kernel
theorem dX0_fly_84 : decode cX0_fly 84 = .ok (.iload_n 3, 1) := by decide +kernel
theorem dX0_fly_85 : decode cX0_fly 85 = .ok (.iload 5, 2) := by decide +kernel
theorem dX0_fly_87 : decode cX0_fly 87 = .ok (.iadd, 1) := by decide +kernel
theorem dX0_fly_88 : decode cX0_fly 88 = .ok (.istore_n 3, 1) := by decide +kernel
theorem dX0_fly_89 : decode cX0_fly 89 = .ok (.iinc 5 (-245), 6) := by decide +kernel
theorem dX0_fly_95 : decode cX0_fly 95 = .ok (.iload_n 3, 1) := by decide +kernel
theorem dX0_fly_96 : decode cX0_fly 96 = .ok (.iload 6, 2) := by decide +kernel
theorem dX0_fly_98 : decode cX0_fly 98 = .ok (.if_icmp .le 7, 3) := by decide +kernel
theorem dX0_fly_101 : decode cX0_fly 101 = .ok (.iload_n 3, 1) := by decide +kernel
theorem dX0_fly_102 : decode cX0_fly 102 = .ok (.goto 5, 3) := by decide +kernel
theorem dX0_fly_105 : decode cX0_fly 105 = .ok (.iload 6, 2) := by decide +kernel
theorem dX0_fly_107 : decode cX0_fly 107 = .ok (.istore 6, 2) := by decide +kernel
theorem dX0_fly_109 : decode cX0_fly 109 = .ok (.iload_n 3, 1) := by decide +kernel
theorem dX0_fly_110 : decode cX0_fly 110 = .ok (.ifCond .gt 36, 3) := by decide +kernel
theorem dX0_fly_113 : decode cX0_fly 113 = .ok (.iload_n 3, 1) := by decide +kernel
theorem dX0_fly_114 : decode cX0_fly 114 = .ok (.bipush (-100), 2) := by decide +kernel
theorem dX0_fly_116 : decode cX0_fly 116 = .ok (.aload_n 0, 1) := by decide +kernel
theorem dX0_fly_117 : decode cX0_fly 117 = .ok (.getfield 75, 3) := by decide +kernel
theorem dX0_fly_120 : decode cX0_fly 120 = .ok (.imul, 1) := by decide +kernel
theorem dX0_fly_121 : decode cX0_fly 121 = .ok (.if_icmp .le 21, 3) := by decide +kernel
theorem dX0_fly_124 : decode cX0_fly 124 = .ok (.aload_n 0, 1) := by decide +kernel
theorem dX0_fly_125 : decode cX0_fly 125 = .ok (.getfield 9, 3) := by decide +kernel
theorem dX0_fly_128 : decode cX0_fly 128 = .ok (.iload_n 2, 1) := by decide +kernel
theorem dX0_fly_129 : decode cX0_fly 129 = .ok (.bipush 100, 2) := by decide +kernel
theorem dX0_fly_131 : decode cX0_fly 131 = .ok (.idiv, 1) := by decide +kernel
theorem dX0_fly_132 : decode cX0_fly 132 = .ok (.invokestatic 78, 3) := by decide +kernel
theorem dX0_fly_135 : decode cX0_fly 135 = .ok (.invokevirtual 81, 3) := by decide +kernel
theorem dX0_fly_138 : decode cX0_fly 138 = .ok (.iconst 2, 1) := by decide +kernel
theorem dX0_fly_139 : decode cX0_fly 139 = .ok (.if_icmp .ne 7, 3) := by decide +kernel
theorem dX0_fly_142 : decode cX0_fly 142 = .ok (.iconst 1, 1) := by decide +kernel
theorem dX0_fly_143 : decode cX0_fly 143 = .ok (.goto 4, 3) := by decide +kernel
theorem dX0_fly_146 : decode cX0_fly 146 = .ok (.iconst 0, 1) := by decide +kernel
theorem dX0_fly_147 : decode cX0_fly 147 = .ok (.istore 8, 2) := by decide +kernel
theorem dX0_fly_149 : decode cX0_fly 149 = .ok (.goto (-86), 3) := by decide +kernel
theorem dX0_fly_152 : decode cX0_fly 152 = .ok (.aload_n 0, 1) := by decide +kernel
theorem dX0_fly_153 : decode cX0_fly 153 = .ok (.iload 7, 2) := by decide +kernel
theorem dX0_fly_155 : decode cX0_fly 155 = .ok (.putfield 101, 3) := by decide +kernel
theorem dX0_fly_158 : decode cX0_fly 158 = .ok (.aload_n 0, 1) := by decide +kernel
theorem dX0_fly_159 : decode cX0_fly 159 = .ok (.iload 8, 2) := by decide +kernel
theorem dX0_fly_161 : decode cX0_fly 161 = .ok (.ifCond .eq 10, 3) := by decide +kernel
theorem dX0_fly_164 : decode cX0_fly 164 = .ok (.iload_n 2, 1) := by decide +kernel
theorem dX0_fly_165 : decode cX0_fly 165 = .ok (.bipush 100, 2) := by decide +kernel
theorem dX0_fly_167 : decode cX0_fly 167 = .ok (.idiv, 1) := by decide +kernel
theorem dX0_fly_168 : decode cX0_fly 168 = .ok (.goto 11, 3) := by decide +kernel
theorem dX0_fly_171 : decode cX0_fly 171 = .ok (.aload_n 0, 1) := by decide +kernel
theorem dX0_fly_172 : decode cX0_fly 172 = .ok (.getfield 15, 3) := by decide +kernel
theorem dX0_fly_175 : decode cX0_fly 175 = .ok (.iload_n 1, 1) := by decide +kernel
theorem dX0_fly_176 : decode cX0_fly 176 = .ok (.invokevirtual 63, 3) := by decide +kernel
theorem dX0_fly_179 : decode cX0_fly 179 = .ok (.putfield 98, 3) := by decide +kernel
theorem dX0_fly_182 : decode cX0_fly 182 = .ok (.aload_n 0, 1) := by decide +kernel
theorem dX0_fly_183 : decode cX0_fly 183 = .ok (.iload 6, 2) := by decide +kernel
theorem dX0_fly_185 : decode cX0_fly 185 = .ok (.bipush 100, 2) := by decide +kernel
theorem dX0_fly_187 : decode cX0_fly 187 = .ok (.idiv, 1) := by decide +kernel
theorem dX0_fly_188 : decode cX0_fly 188 = .ok (.putfield 104, 3) := by decide +kernel
theorem dX0_fly_191 : decode cX0_fly 191 = .ok (.aload_n 0, 1) := by decide +kernel
theorem dX0_fly_192 : decode cX0_fly 192 = .ok (.aload_n 0, 1) := by decide +kernel
theorem dX0_fly_193 : decode cX0_fly 193 = .ok (.getfield 38, 3) := by decide +kernel
theorem dX0_fly_196 : decode cX0_fly 196 = .ok (.aload_n 0, 1) := by decide +kernel
theorem dX0_fly_197 : decode cX0_fly 197 = .ok (.getfield 101, 3) := by decide +kernel
theorem dX0_fly_200 : decode cX0_fly 200 = .ok (.imul, 1) := by decide +kernel
theorem dX0_fly_201 : decode cX0_fly 201 = .ok (.sipush 360, 3) := by decide +kernel
theorem dX0_fly_204 : decode cX0_fly 204 = .ok (.irem, 1) := by decide +kernel
theorem dX0_fly_205 : decode cX0_fly 205 = .ok (.putfield 107, 3) := by decide +kernel
theorem dX0_fly_208 : decode cX0_fly 208 = .ok (.aload_n 0, 1) := by decide +kernel
theorem dX0_fly_209 : decode cX0_fly 209 = .ok (.iload 8, 2) := by decide +kernel
theorem dX0_fly_211 : decode cX0_fly 211 = .ok (.ifCond .eq 17, 3) := by decide +kernel
theorem dX0_fly_214 : decode cX0_fly 214 = .ok (.aload_n 0, 1) := by decide +kernel
theorem dX0_fly_215 : decode cX0_fly 215 = .ok (.aload_n 0, 1) := by decide +kernel
theorem dX0_fly_216 : decode cX0_fly 216 = .ok (.getfield 98, 3) := by decide +kernel
theorem dX0_fly_219 : decode cX0_fly 219 = .ok (.invokestatic 78, 3) := by decide +kernel
theorem dX0_fly_222 : decode cX0_fly 222 = .ok (.invokevirtual 116, 3) := by decide +kernel
theorem dX0_fly_225 : decode cX0_fly 225 = .ok (.goto 4, 3) := by decide +kernel
theorem dX0_fly_228 : decode cX0_fly 228 = .ok (.iconst 0, 1) := by decide +kernel
theorem dX0_fly_229 : decode cX0_fly 229 = .ok (.putfield 92, 3) := by decide +kernel
theorem dX0_fly_232 : decode cX0_fly 232 = .ok (.return_, 1) := by decide +kernel
theorem dX0_landing_0 : decode cX0_landing 0 = .ok (.aload_n 0, 1) := by decide +kernel
theorem dX0_landing_1 : decode cX0_landing 1 = .ok (.getfield 9, 3) := by decide +kernel
theorem dX0_landing_4 : decode cX0_landing 4 = .ok (.iload_n 1, 1) := by decide +kernel
theorem dX0_landing_5 : decode cX0_landing 5 = .ok (.invokevirtual 81, 3) := by decide +kernel
theorem dX0_landing_8 : decode cX0_landing 8 = .ok (.istore_n 2, 1) := by decide +kernel
theorem dX0_landing_9 : decode cX0_landing 9 = .ok (.iload_n 2, 1) := by decide +kernel
theorem dX0_landing_10 : decode cX0_landing 10 = .ok (.iconst 2, 1) := by decide +kernel
theorem dX0_landing_11 : decode cX0_landing 11 = .ok (.if_icmp .ne 5, 3) := by decide +kernel
theorem dX0_landing_14 : decode cX0_landing 14 = .ok (.iconst 1, 1) := by decide +kernel
theorem dX0_landing_15 : decode cX0_landing 15 = .ok (.ireturn, 1) := by decide +kernel
theorem dX0_landing_16 : decode cX0_landing 16 = .ok (.iload_n 2, 1) := by decide +kernel
theorem dX0_landing_17 : decode cX0_landing 17 = .ok (.iconst 1, 1) := by decide +kernel
theorem dX0_landing_18 : decode cX0_landing 18 = .ok (.if_icmp .eq 27, 3) := by decide +kernel
theorem dX0_landing_21 : decode cX0_landing 21 = .ok (.aload_n 0, 1) := by decide +kernel
theorem dX0_landing_22 : decode cX0_landing 22 = .ok (.getfield 9, 3) := by decide +kernel
theorem dX0_landing_25 : decode cX0_landing 25 = .ok (.iload_n 1, 1) := by decide +kernel
theorem dX0_landing_26 : decode cX0_landing 26 = .ok (.aload_n 0, 1) := by decide +kernel
theorem dX0_landing_27 : decode cX0_landing 27 = .ok (.getfield 75, 3) := by decide +kernel
theorem dX0_landing_30 : decode cX0_landing 30 = .ok (.invokevirtual 119, 3) := by decide +kernel
theorem dX0_landing_33 : decode cX0_landing 33 = .ok (.aload_n 0, 1) := by decide +kernel
theorem dX0_landing_34 : decode cX0_landing 34 = .ok (.getfield 9, 3) := by decide +kernel
theorem dX0_landing_37 : decode cX0_landing 37 = .ok (.bipush 7, 2) := by decide +kernel
theorem dX0_landing_39 : decode cX0_landing 39 = .ok (.invokevirtual 69, 3) := by decide +kernel
theorem dX0_landing_42 : decode cX0_landing 42 = .ok (.if_icmp .ge 5, 3) := by decide +kernel
theorem dX0_landing_45 : decode cX0_landing 45 = .ok (.iconst 3, 1) := by decide +kernel
theorem dX0_landing_46 : decode cX0_landing 46 = .ok (.ireturn, 1) := by decide +kernel
theorem dX0_landing_47 : decode cX0_landing 47 = .ok (.aload_n 0, 1) := by decide +kernel
theorem dX0_landing_48 : decode cX0_landing 48 = .ok (.getfield 107, 3) := by decide +kernel
theorem dX0_landing_51 : decode cX0_landing 51 = .ok (.bipush 30, 2) := by decide +kernel
theorem dX0_landing_53 : decode cX0_landing 53 = .ok (.if_icmp .le 13, 3) := by decide +kernel
theorem dX0_landing_56 : decode cX0_landing 56 = .ok (.aload_n 0, 1) := by decide +kernel
theorem dX0_landing_57 : decode cX0_landing 57 = .ok (.getfield 107, 3) := by decide +kernel
theorem dX0_landing_60 : decode cX0_landing 60 = .ok (.sipush 330, 3) := by decide +kernel
theorem dX0_landing_63 : decode cX0_landing 63 = .ok (.if_icmp .lt 7, 3) := by decide +kernel
theorem dX0_landing_66 : decode cX0_landing 66 = .ok (.iconst 2, 1) := by decide +kernel
theorem dX0_landing_67 : decode cX0_landing 67 = .ok (.goto 4, 3) := by decide +kernel
theorem dX0_landing_70 : decode cX0_landing 70 = .ok (.iconst 4, 1) := by decide +kernel
theorem dX0_landing_71 : decode cX0_landing 71 = .ok (.ireturn, 1) := by decide +kernel
theorem dX0_endsGood_0 : decode cX0_endsGood 0 = .ok (.aload_n 0, 1) := by decide +kernel
theorem dX0_endsGood_1 : decode cX0_endsGood 1 = .ok (.iload_n 1, 1) := by decide +kernel
theorem dX0_endsGood_2 : decode cX0_endsGood 2 = .ok (.invokevirtual 84, 3) := by decide +kernel
theorem dX0_endsGood_5 : decode cX0_endsGood 5 = .ok (.ifCond .ne 5, 3) := by decide +kernel
theorem dX0_endsGood_8 : decode cX0_endsGood 8 = .ok (.iconst 0, 1) := by decide +kernel
theorem dX0_endsGood_9 : decode cX0_endsGood 9 = .ok (.ireturn, 1) := by decide +kernel
theorem dX0_endsGood_10 : decode cX0_endsGood 10 = .ok (.aload_n 0, 1) := by decide +kernel
theorem dX0_endsGood_11 : decode cX0_endsGood 11 = .ok (.iload_n 1, 1) := by decide +kernel
theorem dX0_endsGood_12 : decode cX0_endsGood 12 = .ok (.invokevirtual 88, 3) := by decide +kernel
theorem dX0_endsGood_15 : decode cX0_endsGood 15 = .ok (.aload_n 0, 1) := by decide +kernel
theorem dX0_endsGood_16 : decode cX0_endsGood 16 = .ok (.getfield 92, 3) := by decide +kernel
theorem dX0_endsGood_19 : decode cX0_endsGood 19 = .ok (.invokestatic 122, 3) := by decide +kernel
theorem dX0_endsGood_22 : decode cX0_endsGood 22 = .ok (.ireturn, 1) := by decide +kernel
theorem dX0_hasGoodTime_0 : decode cX0_hasGoodTime 0 = .ok (.iconst 1, 1) := by decide +kernel
theorem dX0_hasGoodTime_1 : decode cX0_hasGoodTime 1 = .ok (.istore_n 1, 1) := by decide +kernel
theorem dX0_hasGoodTime_2 : decode cX0_hasGoodTime 2 = .ok (.iload_n 1, 1) := by decide +kernel
theorem dX0_hasGoodTime_3 : decode cX0_hasGoodTime 3 = .ok (.sipush 200, 3) := by decide +kernel
theorem dX0_hasGoodTime_6 : decode cX0_hasGoodTime 6 = .ok (.if_icmp .gt 24, 3) := by decide +kernel
theorem dX0_hasGoodTime_9 : decode cX0_hasGoodTime 9 = .ok (.aload_n 0, 1) := by decide +kernel
theorem dX0_hasGoodTime_10 : decode cX0_hasGoodTime 10 = .ok (.iload_n 1, 1) := by decide +kernel
theorem dX0_hasGoodTime_11 : decode cX0_hasGoodTime 11 = .ok (.aload_n 0, 1) := by decide +kernel
theorem dX0_hasGoodTime_12 : decode cX0_hasGoodTime 12 = .ok (.getfield 35, 3) := by decide +kernel
theorem dX0_hasGoodTime_15 : decode cX0_hasGoodTime 15 = .ok (.iadd, 1) := by decide +kernel
theorem dX0_hasGoodTime_16 : decode cX0_hasGoodTime 16 = .ok (.invokevirtual 125, 3) := by decide +kernel
theorem dX0_hasGoodTime_19 : decode cX0_hasGoodTime 19 = .ok (.ifCond .eq 5, 3) := by decide +kernel
theorem dX0_hasGoodTime_22 : decode cX0_hasGoodTime 22 = .ok (.iconst 1, 1) := by decide +kernel
theorem dX0_hasGoodTime_23 : decode cX0_hasGoodTime 23 = .ok (.ireturn, 1) := by decide +kernel
theorem dX0_hasGoodTime_24 : decode cX0_hasGoodTime 24 = .ok (.iinc 1 1, 3) := by decide +kernel
theorem dX0_hasGoodTime_27 : decode cX0_hasGoodTime 27 = .ok (.goto (-25), 3) := by decide +kernel
theorem dX0_hasGoodTime_30 : decode cX0_hasGoodTime 30 = .ok (.iconst 0, 1) := by decide +kernel
theorem dX0_hasGoodTime_31 : decode cX0_hasGoodTime 31 = .ok (.ireturn, 1) := by decide +kernel
theorem dX1_init_0 : decode cX1_init 0 = .ok (.aload_n 0, 1) := by decide +kernel
theorem dX1_init_1 : decode cX1_init 1 = .ok (.invokespecial 3, 3) := by decide +kernel
theorem dX1_init_4 : decode cX1_init 4 = .ok (.aload_n 0, 1) := by decide +kernel
theorem dX1_init_5 : decode cX1_init 5 = .ok (.new 9, 3) := by decide +kernel
theorem dX1_init_8 : decode cX1_init 8 = .ok (.dup, 1) := by decide +kernel
theorem dX1_init_9 : decode cX1_init 9 = .ok (.invokespecial 11, 3) := by decide +kernel
theorem dX1_init_12 : decode cX1_init 12 = .ok (.putfield 12, 3) := by decide +kernel
theorem dX1_init_15 : decode cX1_init 15 = .ok (.aload_n 0, 1) := by decide +kernel
theorem dX1_init_16 : decode cX1_init 16 = .ok (.sipush 201, 3) := by decide +kernel
theorem dX1_init_19 : decode cX1_init 19 = .ok (.newarray .int, 2) := by decide +kernel
theorem dX1_init_21 : decode cX1_init 21 = .ok (.putfield 18, 3) := by decide +kernel
theorem dX1_init_24 : decode cX1_init 24 = .ok (.aload_n 0, 1) := by decide +kernel
theorem dX1_init_25 : decode cX1_init 25 = .ok (.sipush 201, 3) := by decide +kernel
theorem dX1_init_28 : decode cX1_init 28 = .ok (.newarray .int, 2) := by decide +kernel
theorem dX1_init_30 : decode cX1_init 30 = .ok (.putfield 22, 3) := by decide +kernel
theorem dX1_init_33 : decode cX1_init 33 = .ok (.aload_n 0, 1) := by decide +kernel
theorem dX1_init_34 : decode cX1_init 34 = .ok (.sipush 201, 3) := by decide +kernel
theorem dX1_init_37 : decode cX1_init 37 = .ok (.newarray .int, 2) := by decide +kernel
theorem dX1_init_39 : decode cX1_init 39 = .ok (.putfield 25, 3) := by decide +kernel
theorem dX1_init_42 : decode cX1_init 42 = .ok (.aload_n 0, 1) := by decide +kernel
theorem dX1_init_43 : decode cX1_init 43 = .ok (.sipush 201, 3) := by decide +kernel
theorem dX1_init_46 : decode cX1_init 46 = .ok (.newarray .int, 2) := by decide +kernel
theorem dX1_init_48 : decode cX1_init 48 = .ok (.putfield 28, 3) := by decide +kernel
theorem dX1_init_51 : decode cX1_init 51 = .ok (.aload_n 0, 1) := by decide +kernel
theorem dX1_init_52 : decode cX1_init 52 = .ok (.sipush 201, 3) := by decide +kernel
theorem dX1_init_55 : decode cX1_init 55 = .ok (.newarray .int, 2) := by decide +kernel
theorem dX1_init_57 : decode cX1_init 57 = .ok (.putfield 31, 3) := by decide +kernel
theorem dX1_init_60 : decode cX1_init 60 = .ok (.aload_n 0, 1) := by decide +kernel
theorem dX1_init_61 : decode cX1_init 61 = .ok (.sipush 201, 3) := by decide +kernel
theorem dX1_init_64 : decode cX1_init 64 = .ok (.newarray .int, 2) := by decide +kernel
theorem dX1_init_66 : decode cX1_init 66 = .ok (.putfield 34, 3) := by decide +kernel
theorem dX1_init_69 : decode cX1_init 69 = .ok (.aload_n 0, 1) := by decide +kernel
theorem dX1_init_70 : decode cX1_init 70 = .ok (.sipush 201, 3) := by decide +kernel
theorem dX1_init_73 : decode cX1_init 73 = .ok (.newarray .int, 2) := by decide +kernel
theorem dX1_init_75 : decode cX1_init 75 = .ok (.putfield 37, 3) := by decide +kernel
theorem dX1_init_78 : decode cX1_init 78 = .ok (.return_, 1) := by decide +kernel
theorem dX1_trace_0 : decode cX1_trace 0 = .ok (.aload_n 0, 1) := by decide +kernel
theorem dX1_trace_1 : decode cX1_trace 1 = .ok (.getfield 40, 3) := by decide +kernel
theorem dX1_trace_4 : decode cX1_trace 4 = .ok (.ifCond .eq 37, 3) := by decide +kernel
theorem dX1_trace_7 : decode cX1_trace 7 = .ok (.aload_n 0, 1) := by decide +kernel
theorem dX1_trace_8 : decode cX1_trace 8 = .ok (.getfield 44, 3) := by decide +kernel
theorem dX1_trace_11 : decode cX1_trace 11 = .ok (.iload_n 1, 1) := by decide +kernel
theorem dX1_trace_12 : decode cX1_trace 12 = .ok (.if_icmp .ne 29, 3) := by decide +kernel
theorem dX1_trace_15 : decode cX1_trace 15 = .ok (.aload_n 0, 1) := by decide +kernel
theorem dX1_trace_16 : decode cX1_trace 16 = .ok (.getfield 48, 3) := by decide +kernel
theorem dX1_trace_19 : decode cX1_trace 19 = .ok (.iload_n 2, 1) := by decide +kernel
theorem dX1_trace_20 : decode cX1_trace 20 = .ok (.if_icmp .ne 21, 3) := by decide +kernel
theorem dX1_trace_23 : decode cX1_trace 23 = .ok (.aload_n 0, 1) := by decide +kernel
theorem dX1_trace_24 : decode cX1_trace 24 = .ok (.getfield 51, 3) := by decide +kernel
theorem dX1_trace_27 : decode cX1_trace 27 = .ok (.iload_n 3, 1) := by decide +kernel
theorem dX1_trace_28 : decode cX1_trace 28 = .ok (.if_icmp .ne 13, 3) := by decide +kernel
theorem dX1_trace_31 : decode cX1_trace 31 = .ok (.aload_n 0, 1) := by decide +kernel
theorem dX1_trace_32 : decode cX1_trace 32 = .ok (.getfield 54, 3) := by decide +kernel
theorem dX1_trace_35 : decode cX1_trace 35 = .ok (.iload 4, 2) := by decide +kernel
theorem dX1_trace_37 : decode cX1_trace 37 = .ok (.if_icmp .ne 4, 3) := by decide +kernel
theorem dX1_trace_40 : decode cX1_trace 40 = .ok (.return_, 1) := by decide +kernel
theorem dX1_trace_41 : decode cX1_trace 41 = .ok (.aload_n 0, 1) := by decide +kernel
theorem dX1_trace_42 : decode cX1_trace 42 = .ok (.iconst 1, 1) := by decide +kernel
theorem dX1_trace_43 : decode cX1_trace 43 = .ok (.putfield 40, 3) := by decide +kernel
theorem dX1_trace_46 : decode cX1_trace 46 = .ok (.aload_n 0, 1) := by decide +kernel
theorem dX1_trace_47 : decode cX1_trace 47 = .ok (.iload_n 1, 1) := by decide +kernel
theorem dX1_trace_48 : decode cX1_trace 48 = .ok (.putfield 44, 3) := by decide +kernel
theorem dX1_trace_51 : decode cX1_trace 51 = .ok (.aload_n 0, 1) := by decide +kernel
theorem dX1_trace_52 : decode cX1_trace 52 = .ok (.iload_n 2, 1) := by decide +kernel
theorem dX1_trace_53 : decode cX1_trace 53 = .ok (.putfield 48, 3) := by decide +kernel
theorem dX1_trace_56 : decode cX1_trace 56 = .ok (.aload_n 0, 1) := by decide +kernel
theorem dX1_trace_57 : decode cX1_trace 57 = .ok (.iload_n 3, 1) := by decide +kernel
theorem dX1_trace_58 : decode cX1_trace 58 = .ok (.putfield 51, 3) := by decide +kernel
theorem dX1_trace_61 : decode cX1_trace 61 = .ok (.aload_n 0, 1) := by decide +kernel
theorem dX1_trace_62 : decode cX1_trace 62 = .ok (.iload 4, 2) := by decide +kernel
theorem dX1_trace_64 : decode cX1_trace 64 = .ok (.putfield 54, 3) := by decide +kernel
theorem dX1_trace_67 : decode cX1_trace 67 = .ok (.aload_n 0, 1) := by decide +kernel
theorem dX1_trace_68 : decode cX1_trace 68 = .ok (.getfield 12, 3) := by decide +kernel
theorem dX1_trace_71 : decode cX1_trace 71 = .ok (.aload_n 0, 1) := by decide +kernel
theorem dX1_trace_72 : decode cX1_trace 72 = .ok (.getfield 48, 3) := by decide +kernel
theorem dX1_trace_75 : decode cX1_trace 75 = .ok (.aload_n 0, 1) := by decide +kernel
theorem dX1_trace_76 : decode cX1_trace 76 = .ok (.getfield 51, 3) := by decide +kernel
theorem dX1_trace_79 : decode cX1_trace 79 = .ok (.aload_n 0, 1) := by decide +kernel
theorem dX1_trace_80 : decode cX1_trace 80 = .ok (.getfield 54, 3) := by decide +kernel
theorem dX1_trace_83 : decode cX1_trace 83 = .ok (.invokevirtual 57, 3) := by decide +kernel
theorem dX1_trace_86 : decode cX1_trace 86 = .ok (.aload_n 0, 1) := by decide +kernel
theorem dX1_trace_87 : decode cX1_trace 87 = .ok (.iconst 0, 1) := by decide +kernel
theorem dX1_trace_88 : decode cX1_trace 88 = .ok (.invokevirtual 61, 3) := by decide +kernel
theorem dX1_trace_91 : decode cX1_trace 91 = .ok (.iconst 1, 1) := by decide +kernel
theorem dX1_trace_92 : decode cX1_trace 92 = .ok (.istore 5, 2) := by decide +kernel
theorem dX1_trace_94 : decode cX1_trace 94 = .ok (.iload 5, 2) := by decide +kernel
theorem dX1_trace_96 : decode cX1_trace 96 = .ok (.sipush 200, 3) := by decide +kernel
theorem dX1_trace_99 : decode cX1_trace 99 = .ok (.if_icmp .gt 22, 3) := by decide +kernel
theorem dX1_trace_102 : decode cX1_trace 102 = .ok (.aload_n 0, 1) := by decide +kernel
theorem dX1_trace_103 : decode cX1_trace 103 = .ok (.getfield 12, 3) := by decide +kernel
theorem dX1_trace_106 : decode cX1_trace 106 = .ok (.invokevirtual 65, 3) := by decide +kernel
theorem dX1_trace_109 : decode cX1_trace 109 = .ok (.aload_n 0, 1) := by decide +kernel
theorem dX1_trace_110 : decode cX1_trace 110 = .ok (.iload 5, 2) := by decide +kernel
theorem dX1_trace_112 : decode cX1_trace 112 = .ok (.invokevirtual 61, 3) := by decide +kernel
theorem dX1_trace_115 : decode cX1_trace 115 = .ok (.iinc 5 1, 3) := by decide +kernel
theorem dX1_trace_118 : decode cX1_trace 118 = .ok (.goto (-24), 3) := by decide +kernel
theorem dX1_trace_121 : decode cX1_trace 121 = .ok (.return_, 1) := by decide +kernel
theorem dX1_note_0 : decode cX1_note 0 = .ok (.aload_n 0, 1) := by decide +kernel
theorem dX1_note_1 : decode cX1_note 1 = .ok (.getfield 12, 3) := by decide +kernel
theorem dX1_note_4 : decode cX1_note 4 = .ok (.getfield 68, 3) := by decide +kernel
theorem dX1_note_7 : decode cX1_note 7 = .ok (.bipush 100, 2) := by decide +kernel
theorem dX1_note_9 : decode cX1_note 9 = .ok (.idiv, 1) := by decide +kernel
theorem dX1_note_10 : decode cX1_note 10 = .ok (.invokestatic 70, 3) := by decide +kernel
theorem dX1_note_13 : decode cX1_note 13 = .ok (.istore_n 2, 1) := by decide +kernel
theorem dX1_note_14 : decode cX1_note 14 = .ok (.sipush 900, 3) := by decide +kernel
theorem dX1_note_17 : decode cX1_note 17 = .ok (.aload_n 0, 1) := by decide +kernel
theorem dX1_note_18 : decode cX1_note 18 = .ok (.getfield 12, 3) := by decide +kernel
theorem dX1_note_21 : decode cX1_note 21 = .ok (.getfield 68, 3) := by decide +kernel
theorem dX1_note_24 : decode cX1_note 24 = .ok (.bipush 100, 2) := by decide +kernel
theorem dX1_note_26 : decode cX1_note 26 = .ok (.idiv, 1) := by decide +kernel
theorem dX1_note_27 : decode cX1_note 27 = .ok (.invokestatic 74, 3) := by decide +kernel
theorem dX1_note_30 : decode cX1_note 30 = .ok (.isub, 1) := by decide +kernel
theorem dX1_note_31 : decode cX1_note 31 = .ok (.invokestatic 70, 3) := by decide +kernel
theorem dX1_note_34 : decode cX1_note 34 = .ok (.istore_n 3, 1) := by decide +kernel
theorem dX1_note_35 : decode cX1_note 35 = .ok (.aload_n 0, 1) := by decide +kernel
theorem dX1_note_36 : decode cX1_note 36 = .ok (.getfield 12, 3) := by decide +kernel
theorem dX1_note_39 : decode cX1_note 39 = .ok (.getfield 77, 3) := by decide +kernel
theorem dX1_note_42 : decode cX1_note 42 = .ok (.aload_n 0, 1) := by decide +kernel
theorem dX1_note_43 : decode cX1_note 43 = .ok (.getfield 48, 3) := by decide +kernel
theorem dX1_note_46 : decode cX1_note 46 = .ok (.imul, 1) := by decide +kernel
theorem dX1_note_47 : decode cX1_note 47 = .ok (.sipush 573, 3) := by decide +kernel
theorem dX1_note_50 : decode cX1_note 50 = .ok (.idiv, 1) := by decide +kernel
theorem dX1_note_51 : decode cX1_note 51 = .ok (.istore 4, 2) := by decide +kernel
theorem dX1_note_53 : decode cX1_note 53 = .ok (.aload_n 0, 1) := by decide +kernel
theorem dX1_note_54 : decode cX1_note 54 = .ok (.getfield 12, 3) := by decide +kernel
theorem dX1_note_57 : decode cX1_note 57 = .ok (.getfield 77, 3) := by decide +kernel
theorem dX1_note_60 : decode cX1_note 60 = .ok (.i2l, 1) := by decide +kernel
theorem dX1_note_61 : decode cX1_note 61 = .ok (.aload_n 0, 1) := by decide +kernel
theorem dX1_note_62 : decode cX1_note 62 = .ok (.getfield 12, 3) := by decide +kernel
theorem dX1_note_65 : decode cX1_note 65 = .ok (.getfield 77, 3) := by decide +kernel
theorem dX1_note_68 : decode cX1_note 68 = .ok (.i2l, 1) := by decide +kernel
theorem dX1_note_69 : decode cX1_note 69 = .ok (.lmul, 1) := by decide +kernel
theorem dX1_note_70 : decode cX1_note 70 = .ok (.aload_n 0, 1) := by decide +kernel
theorem dX1_note_71 : decode cX1_note 71 = .ok (.getfield 48, 3) := by decide +kernel
theorem dX1_note_74 : decode cX1_note 74 = .ok (.i2l, 1) := by decide +kernel
theorem dX1_note_75 : decode cX1_note 75 = .ok (.lmul, 1) := by decide +kernel
theorem dX1_note_76 : decode cX1_note 76 = .ok (.ldc2_w 79, 3) := by decide +kernel
theorem dX1_note_79 : decode cX1_note 79 = .ok (.ldiv, 1) := by decide +kernel
theorem dX1_note_80 : decode cX1_note 80 = .ok (.lstore 5, 2) := by decide +kernel
theorem dX1_note_82 : decode cX1_note 82 = .ok (.aload_n 0, 1) := by decide +kernel
theorem dX1_note_83 : decode cX1_note 83 = .ok (.getfield 18, 3) := by decide +kernel
theorem dX1_note_86 : decode cX1_note 86 = .ok (.iload_n 1, 1) := by decide +kernel
theorem dX1_note_87 : decode cX1_note 87 = .ok (.aload_n 0, 1) := by decide +kernel
theorem dX1_note_88 : decode cX1_note 88 = .ok (.getfield 12, 3) := by decide +kernel
theorem dX1_note_91 : decode cX1_note 91 = .ok (.getfield 68, 3) := by decide +kernel
theorem dX1_note_94 : decode cX1_note 94 = .ok (.invokestatic 81, 3) := by decide +kernel
theorem dX1_note_97 : decode cX1_note 97 = .ok (.aload_n 0, 1) := by decide +kernel
theorem dX1_note_98 : decode cX1_note 98 = .ok (.getfield 22, 3) := by decide +kernel
theorem dX1_note_101 : decode cX1_note 101 = .ok (.iload_n 1, 1) := by decide +kernel
theorem dX1_note_102 : decode cX1_note 102 = .ok (.aload_n 0, 1) := by decide +kernel
theorem dX1_note_103 : decode cX1_note 103 = .ok (.getfield 12, 3) := by decide +kernel
theorem dX1_note_106 : decode cX1_note 106 = .ok (.getfield 77, 3) := by decide +kernel
theorem dX1_note_109 : decode cX1_note 109 = .ok (.invokestatic 81, 3) := by decide +kernel
theorem dX1_note_112 : decode cX1_note 112 = .ok (.aload_n 0, 1) := by decide +kernel
theorem dX1_note_113 : decode cX1_note 113 = .ok (.getfield 25, 3) := by decide +kernel
theorem dX1_note_116 : decode cX1_note 116 = .ok (.iload_n 1, 1) := by decide +kernel
theorem dX1_note_117 : decode cX1_note 117 = .ok (.aload_n 0, 1) := by decide +kernel
theorem dX1_note_118 : decode cX1_note 118 = .ok (.getfield 48, 3) := by decide +kernel
theorem dX1_note_121 : decode cX1_note 121 = .ok (.iload_n 2, 1) := by decide +kernel
theorem dX1_note_122 : decode cX1_note 122 = .ok (.imul, 1) := by decide +kernel
theorem dX1_note_123 : decode cX1_note 123 = .ok (.sipush 1000, 3) := by decide +kernel
theorem dX1_note_126 : decode cX1_note 126 = .ok (.idiv, 1) := by decide +kernel
theorem dX1_note_127 : decode cX1_note 127 = .ok (.invokestatic 81, 3) := by decide +kernel
theorem dX1_note_130 : decode cX1_note 130 = .ok (.aload_n 0, 1) := by decide +kernel
theorem dX1_note_131 : decode cX1_note 131 = .ok (.getfield 28, 3) := by decide +kernel
theorem dX1_note_134 : decode cX1_note 134 = .ok (.iload_n 1, 1) := by decide +kernel
theorem dX1_note_135 : decode cX1_note 135 = .ok (.aload_n 0, 1) := by decide +kernel
theorem dX1_note_136 : decode cX1_note 136 = .ok (.getfield 44, 3) := by decide +kernel
theorem dX1_note_139 : decode cX1_note 139 = .ok (.aload_n 0, 1) := by decide +kernel
theorem dX1_note_140 : decode cX1_note 140 = .ok (.getfield 48, 3) := by decide +kernel
theorem dX1_note_143 : decode cX1_note 143 = .ok (.iload_n 3, 1) := by decide +kernel
theorem dX1_note_144 : decode cX1_note 144 = .ok (.imul, 1) := by decide +kernel
theorem dX1_note_145 : decode cX1_note 145 = .ok (.sipush 1000, 3) := by decide +kernel
theorem dX1_note_148 : decode cX1_note 148 = .ok (.idiv, 1) := by decide +kernel
theorem dX1_note_149 : decode cX1_note 149 = .ok (.isub, 1) := by decide +kernel
theorem dX1_note_150 : decode cX1_note 150 = .ok (.invokestatic 81, 3) := by decide +kernel
theorem dX1_note_153 : decode cX1_note 153 = .ok (.aload_n 0, 1) := by decide +kernel
theorem dX1_note_154 : decode cX1_note 154 = .ok (.getfield 31, 3) := by decide +kernel
theorem dX1_note_157 : decode cX1_note 157 = .ok (.iload_n 1, 1) := by decide +kernel
theorem dX1_note_158 : decode cX1_note 158 = .ok (.iload_n 3, 1) := by decide +kernel
theorem dX1_note_159 : decode cX1_note 159 = .ok (.bipush 10, 2) := by decide +kernel
theorem dX1_note_161 : decode cX1_note 161 = .ok (.idiv, 1) := by decide +kernel
theorem dX1_note_162 : decode cX1_note 162 = .ok (.lload 5, 2) := by decide +kernel
theorem dX1_note_164 : decode cX1_note 164 = .ok (.l2i, 1) := by decide +kernel
theorem dX1_note_165 : decode cX1_note 165 = .ok (.iadd, 1) := by decide +kernel
theorem dX1_note_166 : decode cX1_note 166 = .ok (.invokestatic 81, 3) := by decide +kernel
theorem dX1_note_169 : decode cX1_note 169 = .ok (.aload_n 0, 1) := by decide +kernel
theorem dX1_note_170 : decode cX1_note 170 = .ok (.getfield 34, 3) := by decide +kernel
theorem dX1_note_173 : decode cX1_note 173 = .ok (.iload_n 1, 1) := by decide +kernel
theorem dX1_note_174 : decode cX1_note 174 = .ok (.iload 4, 2) := by decide +kernel
theorem dX1_note_176 : decode cX1_note 176 = .ok (.iload_n 3, 1) := by decide +kernel
theorem dX1_note_177 : decode cX1_note 177 = .ok (.imul, 1) := by decide +kernel
theorem dX1_note_178 : decode cX1_note 178 = .ok (.sipush 1000, 3) := by decide +kernel
theorem dX1_note_181 : decode cX1_note 181 = .ok (.idiv, 1) := by decide +kernel
theorem dX1_note_182 : decode cX1_note 182 = .ok (.invokestatic 81, 3) := by decide +kernel
theorem dX1_note_185 : decode cX1_note 185 = .ok (.aload_n 0, 1) := by decide +kernel
theorem dX1_note_186 : decode cX1_note 186 = .ok (.getfield 37, 3) := by decide +kernel
theorem dX1_note_189 : decode cX1_note 189 = .ok (.iload_n 1, 1) := by decide +kernel
theorem dX1_note_190 : decode cX1_note 190 = .ok (.iload 4, 2) := by decide +kernel
theorem dX1_note_192 : decode cX1_note 192 = .ok (.iload_n 2, 1) := by decide +kernel
theorem dX1_note_193 : decode cX1_note 193 = .ok (.imul, 1) := by decide +kernel
theorem dX1_note_194 : decode cX1_note 194 = .ok (.sipush 1000, 3) := by decide +kernel
theorem dX1_note_197 : decode cX1_note 197 = .ok (.idiv, 1) := by decide +kernel
theorem dX1_note_198 : decode cX1_note 198 = .ok (.invokestatic 81, 3) := by decide +kernel
theorem dX1_note_201 : decode cX1_note 201 = .ok (.return_, 1) := by decide +kernel
theorem dX1_angle_0 : decode cX1_angle 0 = .ok (.aload_n 0, 1) := by decide +kernel
theorem dX1_angle_1 : decode cX1_angle 1 = .ok (.getfield 18, 3) := by decide +kernel
theorem dX1_angle_4 : decode cX1_angle 4 = .ok (.iload_n 1, 1) := by decide +kernel
theorem dX1_angle_5 : decode cX1_angle 5 = .ok (.invokestatic 85, 3) := by decide +kernel
theorem dX1_angle_8 : decode cX1_angle 8 = .ok (.ireturn, 1) := by decide +kernel
theorem dX1_pace_0 : decode cX1_pace 0 = .ok (.aload_n 0, 1) := by decide +kernel
theorem dX1_pace_1 : decode cX1_pace 1 = .ok (.getfield 22, 3) := by decide +kernel
theorem dX1_pace_4 : decode cX1_pace 4 = .ok (.iload_n 1, 1) := by decide +kernel
theorem dX1_pace_5 : decode cX1_pace 5 = .ok (.invokestatic 85, 3) := by decide +kernel
theorem dX1_pace_8 : decode cX1_pace 8 = .ok (.ireturn, 1) := by decide +kernel
theorem dX1_x_0 : decode cX1_x 0 = .ok (.aload_n 0, 1) := by decide +kernel
theorem dX1_x_1 : decode cX1_x 1 = .ok (.getfield 25, 3) := by decide +kernel
theorem dX1_x_4 : decode cX1_x 4 = .ok (.iload_n 1, 1) := by decide +kernel
theorem dX1_x_5 : decode cX1_x 5 = .ok (.invokestatic 85, 3) := by decide +kernel
theorem dX1_x_8 : decode cX1_x 8 = .ok (.ireturn, 1) := by decide +kernel
theorem dX1_height_0 : decode cX1_height 0 = .ok (.aload_n 0, 1) := by decide +kernel
theorem dX1_height_1 : decode cX1_height 1 = .ok (.getfield 28, 3) := by decide +kernel
theorem dX1_height_4 : decode cX1_height 4 = .ok (.iload_n 1, 1) := by decide +kernel
theorem dX1_height_5 : decode cX1_height 5 = .ok (.invokestatic 85, 3) := by decide +kernel
theorem dX1_height_8 : decode cX1_height 8 = .ok (.ireturn, 1) := by decide +kernel
theorem dX1_across_0 : decode cX1_across 0 = .ok (.aload_n 0, 1) := by decide +kernel
theorem dX1_across_1 : decode cX1_across 1 = .ok (.getfield 34, 3) := by decide +kernel
theorem dX1_across_4 : decode cX1_across 4 = .ok (.iload_n 1, 1) := by decide +kernel
theorem dX1_across_5 : decode cX1_across 5 = .ok (.invokestatic 85, 3) := by decide +kernel
theorem dX1_across_8 : decode cX1_across 8 = .ok (.ireturn, 1) := by decide +kernel
theorem dX1_up_0 : decode cX1_up 0 = .ok (.aload_n 0, 1) := by decide +kernel
theorem dX1_up_1 : decode cX1_up 1 = .ok (.getfield 37, 3) := by decide +kernel
theorem dX1_up_4 : decode cX1_up 4 = .ok (.iload_n 1, 1) := by decide +kernel
theorem dX1_up_5 : decode cX1_up 5 = .ok (.invokestatic 85, 3) := by decide +kernel
theorem dX1_up_8 : decode cX1_up 8 = .ok (.ireturn, 1) := by decide +kernel
theorem dX1_pull_0 : decode cX1_pull 0 = .ok (.iconst 0, 1) := by decide +kernel
theorem dX1_pull_1 : decode cX1_pull 1 = .ok (.iload_n 2, 1) := by decide +kernel
theorem dX1_pull_2 : decode cX1_pull 2 = .ok (.aload_n 0, 1) := by decide +kernel
theorem dX1_pull_3 : decode cX1_pull 3 = .ok (.getfield 31, 3) := by decide +kernel
theorem dX1_pull_6 : decode cX1_pull 6 = .ok (.iload_n 1, 1) := by decide +kernel
theorem dX1_pull_7 : decode cX1_pull 7 = .ok (.invokestatic 85, 3) := by decide +kernel
theorem dX1_pull_10 : decode cX1_pull 10 = .ok (.imul, 1) := by decide +kernel
theorem dX1_pull_11 : decode cX1_pull 11 = .ok (.bipush 100, 2) := by decide +kernel
theorem dX1_pull_13 : decode cX1_pull 13 = .ok (.idiv, 1) := by decide +kernel
theorem dX1_pull_14 : decode cX1_pull 14 = .ok (.invokestatic 89, 3) := by decide +kernel
theorem dX1_pull_17 : decode cX1_pull 17 = .ok (.ireturn, 1) := by decide +kernel
theorem dX1_left_0 : decode cX1_left 0 = .ok (.sipush 1000, 3) := by decide +kernel
theorem dX1_left_3 : decode cX1_left 3 = .ok (.istore 4, 2) := by decide +kernel
theorem dX1_left_5 : decode cX1_left 5 = .ok (.iconst 1, 1) := by decide +kernel
theorem dX1_left_6 : decode cX1_left 6 = .ok (.istore 5, 2) := by decide +kernel
theorem dX1_left_8 : decode cX1_left 8 = .ok (.iload 5, 2) := by decide +kernel
theorem dX1_left_10 : decode cX1_left 10 = .ok (.iload_n 1, 1) := by decide +kernel
theorem dX1_left_11 : decode cX1_left 11 = .ok (.if_icmp .gt 28, 3) := by decide +kernel
theorem dX1_left_14 : decode cX1_left 14 = .ok (.iload 4, 2) := by decide +kernel
theorem dX1_left_16 : decode cX1_left 16 = .ok (.bipush 20, 2) := by decide +kernel
theorem dX1_left_18 : decode cX1_left 18 = .ok (.aload_n 0, 1) := by decide +kernel
theorem dX1_left_19 : decode cX1_left 19 = .ok (.iload 5, 2) := by decide +kernel
theorem dX1_left_21 : decode cX1_left 21 = .ok (.iload_n 2, 1) := by decide +kernel
theorem dX1_left_22 : decode cX1_left 22 = .ok (.invokevirtual 95, 3) := by decide +kernel
theorem dX1_left_25 : decode cX1_left 25 = .ok (.imul, 1) := by decide +kernel
theorem dX1_left_26 : decode cX1_left 26 = .ok (.iload_n 3, 1) := by decide +kernel
theorem dX1_left_27 : decode cX1_left 27 = .ok (.invokestatic 98, 3) := by decide +kernel
theorem dX1_left_30 : decode cX1_left 30 = .ok (.isub, 1) := by decide +kernel
theorem dX1_left_31 : decode cX1_left 31 = .ok (.istore 4, 2) := by decide +kernel
theorem dX1_left_33 : decode cX1_left 33 = .ok (.iinc 5 1, 3) := by decide +kernel
theorem dX1_left_36 : decode cX1_left 36 = .ok (.goto (-28), 3) := by decide +kernel
theorem dX1_left_39 : decode cX1_left 39 = .ok (.iload 4, 2) := by decide +kernel
theorem dX1_left_41 : decode cX1_left 41 = .ok (.ireturn, 1) := by decide +kernel
theorem dX1_hardestPull_0 : decode cX1_hardestPull 0 = .ok (.iconst 0, 1) := by decide +kernel
theorem dX1_hardestPull_1 : decode cX1_hardestPull 1 = .ok (.istore_n 2, 1) := by decide +kernel
theorem dX1_hardestPull_2 : decode cX1_hardestPull 2 = .ok (.iconst 1, 1) := by decide +kernel
theorem dX1_hardestPull_3 : decode cX1_hardestPull 3 = .ok (.istore_n 3, 1) := by decide +kernel
theorem dX1_hardestPull_4 : decode cX1_hardestPull 4 = .ok (.iload_n 3, 1) := by decide +kernel
theorem dX1_hardestPull_5 : decode cX1_hardestPull 5 = .ok (.sipush 200, 3) := by decide +kernel
theorem dX1_hardestPull_8 : decode cX1_hardestPull 8 = .ok (.if_icmp .gt 20, 3) := by decide +kernel
theorem dX1_hardestPull_11 : decode cX1_hardestPull 11 = .ok (.iload_n 2, 1) := by decide +kernel
theorem dX1_hardestPull_12 : decode cX1_hardestPull 12 = .ok (.aload_n 0, 1) := by decide +kernel
theorem dX1_hardestPull_13 : decode cX1_hardestPull 13 = .ok (.iload_n 3, 1) := by decide +kernel
theorem dX1_hardestPull_14 : decode cX1_hardestPull 14 = .ok (.iload_n 1, 1) := by decide +kernel
theorem dX1_hardestPull_15 : decode cX1_hardestPull 15 = .ok (.invokevirtual 95, 3) := by decide +kernel
theorem dX1_hardestPull_18 : decode cX1_hardestPull 18 = .ok (.invokestatic 89, 3) := by decide +kernel
theorem dX1_hardestPull_21 : decode cX1_hardestPull 21 = .ok (.istore_n 2, 1) := by decide +kernel
theorem dX1_hardestPull_22 : decode cX1_hardestPull 22 = .ok (.iinc 3 1, 3) := by decide +kernel
theorem dX1_hardestPull_25 : decode cX1_hardestPull 25 = .ok (.goto (-21), 3) := by decide +kernel
theorem dX1_hardestPull_28 : decode cX1_hardestPull 28 = .ok (.iload_n 2, 1) := by decide +kernel
theorem dX1_hardestPull_29 : decode cX1_hardestPull 29 = .ok (.ireturn, 1) := by decide +kernel
theorem dX2_init_0 : decode cX2_init 0 = .ok (.aload_n 0, 1) := by decide +kernel
theorem dX2_init_1 : decode cX2_init 1 = .ok (.invokespecial 1, 3) := by decide +kernel
theorem dX2_init_4 : decode cX2_init 4 = .ok (.return_, 1) := by decide +kernel
theorem dX2_begin_0 : decode cX2_begin 0 = .ok (.aload_n 0, 1) := by decide +kernel
theorem dX2_begin_1 : decode cX2_begin 1 = .ok (.iload_n 1, 1) := by decide +kernel
theorem dX2_begin_2 : decode cX2_begin 2 = .ok (.putfield 7, 3) := by decide +kernel
theorem dX2_begin_5 : decode cX2_begin 5 = .ok (.aload_n 0, 1) := by decide +kernel
theorem dX2_begin_6 : decode cX2_begin 6 = .ok (.sipush (-1000), 3) := by decide +kernel
theorem dX2_begin_9 : decode cX2_begin 9 = .ok (.iload_n 2, 1) := by decide +kernel
theorem dX2_begin_10 : decode cX2_begin 10 = .ok (.imul, 1) := by decide +kernel
theorem dX2_begin_11 : decode cX2_begin 11 = .ok (.putfield 13, 3) := by decide +kernel
theorem dX2_begin_14 : decode cX2_begin 14 = .ok (.aload_n 0, 1) := by decide +kernel
theorem dX2_begin_15 : decode cX2_begin 15 = .ok (.sipush 2865, 3) := by decide +kernel
theorem dX2_begin_18 : decode cX2_begin 18 = .ok (.iload_n 3, 1) := by decide +kernel
theorem dX2_begin_19 : decode cX2_begin 19 = .ok (.imul, 1) := by decide +kernel
theorem dX2_begin_20 : decode cX2_begin 20 = .ok (.aload_n 0, 1) := by decide +kernel
theorem dX2_begin_21 : decode cX2_begin 21 = .ok (.getfield 7, 3) := by decide +kernel
theorem dX2_begin_24 : decode cX2_begin 24 = .ok (.invokestatic 16, 3) := by decide +kernel
theorem dX2_begin_27 : decode cX2_begin 27 = .ok (.putfield 22, 3) := by decide +kernel
theorem dX2_begin_30 : decode cX2_begin 30 = .ok (.return_, 1) := by decide +kernel
theorem dX2_swing_0 : decode cX2_swing 0 = .ok (.aload_n 0, 1) := by decide +kernel
theorem dX2_swing_1 : decode cX2_swing 1 = .ok (.dup, 1) := by decide +kernel
theorem dX2_swing_2 : decode cX2_swing 2 = .ok (.getfield 22, 3) := by decide +kernel
theorem dX2_swing_5 : decode cX2_swing 5 = .ok (.sipush 140, 3) := by decide +kernel
theorem dX2_swing_8 : decode cX2_swing 8 = .ok (.aload_n 0, 1) := by decide +kernel
theorem dX2_swing_9 : decode cX2_swing 9 = .ok (.getfield 13, 3) := by decide +kernel
theorem dX2_swing_12 : decode cX2_swing 12 = .ok (.bipush 100, 2) := by decide +kernel
theorem dX2_swing_14 : decode cX2_swing 14 = .ok (.idiv, 1) := by decide +kernel
theorem dX2_swing_15 : decode cX2_swing 15 = .ok (.invokestatic 25, 3) := by decide +kernel
theorem dX2_swing_18 : decode cX2_swing 18 = .ok (.imul, 1) := by decide +kernel
theorem dX2_swing_19 : decode cX2_swing 19 = .ok (.aload_n 0, 1) := by decide +kernel
theorem dX2_swing_20 : decode cX2_swing 20 = .ok (.getfield 7, 3) := by decide +kernel
theorem dX2_swing_23 : decode cX2_swing 23 = .ok (.invokestatic 16, 3) := by decide +kernel
theorem dX2_swing_26 : decode cX2_swing 26 = .ok (.isub, 1) := by decide +kernel
theorem dX2_swing_27 : decode cX2_swing 27 = .ok (.putfield 22, 3) := by decide +kernel
theorem dX2_swing_30 : decode cX2_swing 30 = .ok (.aload_n 0, 1) := by decide +kernel
theorem dX2_swing_31 : decode cX2_swing 31 = .ok (.dup, 1) := by decide +kernel
theorem dX2_swing_32 : decode cX2_swing 32 = .ok (.getfield 13, 3) := by decide +kernel
theorem dX2_swing_35 : decode cX2_swing 35 = .ok (.aload_n 0, 1) := by decide +kernel
theorem dX2_swing_36 : decode cX2_swing 36 = .ok (.getfield 22, 3) := by decide +kernel
theorem dX2_swing_39 : decode cX2_swing 39 = .ok (.iadd, 1) := by decide +kernel
theorem dX2_swing_40 : decode cX2_swing 40 = .ok (.putfield 13, 3) := by decide +kernel
theorem dX2_swing_43 : decode cX2_swing 43 = .ok (.return_, 1) := by decide +kernel
theorem dX3_init_0 : decode cX3_init 0 = .ok (.aload_n 0, 1) := by decide +kernel
theorem dX3_init_1 : decode cX3_init 1 = .ok (.invokespecial 3, 3) := by decide +kernel
theorem dX3_init_4 : decode cX3_init 4 = .ok (.aload_n 0, 1) := by decide +kernel
theorem dX3_init_5 : decode cX3_init 5 = .ok (.bipush 9, 2) := by decide +kernel
theorem dX3_init_7 : decode cX3_init 7 = .ok (.newarray .int, 2) := by decide +kernel
theorem dX3_init_9 : decode cX3_init 9 = .ok (.putfield 9, 3) := by decide +kernel
theorem dX3_init_12 : decode cX3_init 12 = .ok (.aload_n 0, 1) := by decide +kernel
theorem dX3_init_13 : decode cX3_init 13 = .ok (.bipush 24, 2) := by decide +kernel
theorem dX3_init_15 : decode cX3_init 15 = .ok (.newarray .int, 2) := by decide +kernel
theorem dX3_init_17 : decode cX3_init 17 = .ok (.putfield 15, 3) := by decide +kernel
theorem dX3_init_20 : decode cX3_init 20 = .ok (.aload_n 0, 1) := by decide +kernel
theorem dX3_init_21 : decode cX3_init 21 = .ok (.bipush 24, 2) := by decide +kernel
theorem dX3_init_23 : decode cX3_init 23 = .ok (.newarray .int, 2) := by decide +kernel
theorem dX3_init_25 : decode cX3_init 25 = .ok (.putfield 18, 3) := by decide +kernel
theorem dX3_init_28 : decode cX3_init 28 = .ok (.aload_n 0, 1) := by decide +kernel
theorem dX3_init_29 : decode cX3_init 29 = .ok (.bipush 12, 2) := by decide +kernel
theorem dX3_init_31 : decode cX3_init 31 = .ok (.newarray .int, 2) := by decide +kernel
theorem dX3_init_33 : decode cX3_init 33 = .ok (.putfield 21, 3) := by decide +kernel
theorem dX3_init_36 : decode cX3_init 36 = .ok (.aload_n 0, 1) := by decide +kernel
theorem dX3_init_37 : decode cX3_init 37 = .ok (.invokevirtual 24, 3) := by decide +kernel
theorem dX3_init_40 : decode cX3_init 40 = .ok (.return_, 1) := by decide +kernel
theorem dX3_clear_0 : decode cX3_clear 0 = .ok (.getstatic 27, 3) := by decide +kernel
theorem dX3_clear_3 : decode cX3_clear 3 = .ok (.iconst 0, 1) := by decide +kernel
theorem dX3_clear_4 : decode cX3_clear 4 = .ok (.aload_n 0, 1) := by decide +kernel
theorem dX3_clear_5 : decode cX3_clear 5 = .ok (.getfield 9, 3) := by decide +kernel
theorem dX3_clear_8 : decode cX3_clear 8 = .ok (.iconst 0, 1) := by decide +kernel
theorem dX3_clear_9 : decode cX3_clear 9 = .ok (.getstatic 27, 3) := by decide +kernel
theorem dX3_clear_12 : decode cX3_clear 12 = .ok (.arraylength, 1) := by decide +kernel
theorem dX3_clear_13 : decode cX3_clear 13 = .ok (.aload_n 0, 1) := by decide +kernel
theorem dX3_clear_14 : decode cX3_clear 14 = .ok (.getfield 9, 3) := by decide +kernel
theorem dX3_clear_17 : decode cX3_clear 17 = .ok (.arraylength, 1) := by decide +kernel
theorem dX3_clear_18 : decode cX3_clear 18 = .ok (.invokestatic 30, 3) := by decide +kernel
theorem dX3_clear_21 : decode cX3_clear 21 = .ok (.invokestatic 36, 3) := by decide +kernel
theorem dX3_clear_24 : decode cX3_clear 24 = .ok (.aload_n 0, 1) := by decide +kernel
theorem dX3_clear_25 : decode cX3_clear 25 = .ok (.getfield 15, 3) := by decide +kernel
theorem dX3_clear_28 : decode cX3_clear 28 = .ok (.sipush 200, 3) := by decide +kernel
theorem dX3_clear_31 : decode cX3_clear 31 = .ok (.invokestatic 42, 3) := by decide +kernel
theorem dX3_clear_34 : decode cX3_clear 34 = .ok (.aload_n 0, 1) := by decide +kernel
theorem dX3_clear_35 : decode cX3_clear 35 = .ok (.getfield 18, 3) := by decide +kernel
theorem dX3_clear_38 : decode cX3_clear 38 = .ok (.iconst 0, 1) := by decide +kernel
theorem dX3_clear_39 : decode cX3_clear 39 = .ok (.invokestatic 42, 3) := by decide +kernel
theorem dX3_clear_42 : decode cX3_clear 42 = .ok (.aload_n 0, 1) := by decide +kernel
theorem dX3_clear_43 : decode cX3_clear 43 = .ok (.getfield 21, 3) := by decide +kernel
theorem dX3_clear_46 : decode cX3_clear 46 = .ok (.iconst 0, 1) := by decide +kernel
theorem dX3_clear_47 : decode cX3_clear 47 = .ok (.invokestatic 42, 3) := by decide +kernel
theorem dX3_clear_50 : decode cX3_clear 50 = .ok (.return_, 1) := by decide +kernel
theorem dX3_copy_0 : decode cX3_copy 0 = .ok (.aload_n 1, 1) := by decide +kernel
theorem dX3_copy_1 : decode cX3_copy 1 = .ok (.getfield 9, 3) := by decide +kernel
theorem dX3_copy_4 : decode cX3_copy 4 = .ok (.iconst 0, 1) := by decide +kernel
theorem dX3_copy_5 : decode cX3_copy 5 = .ok (.aload_n 0, 1) := by decide +kernel
theorem dX3_copy_6 : decode cX3_copy 6 = .ok (.getfield 9, 3) := by decide +kernel
theorem dX3_copy_9 : decode cX3_copy 9 = .ok (.iconst 0, 1) := by decide +kernel
theorem dX3_copy_10 : decode cX3_copy 10 = .ok (.aload_n 1, 1) := by decide +kernel
theorem dX3_copy_11 : decode cX3_copy 11 = .ok (.getfield 9, 3) := by decide +kernel
theorem dX3_copy_14 : decode cX3_copy 14 = .ok (.arraylength, 1) := by decide +kernel
theorem dX3_copy_15 : decode cX3_copy 15 = .ok (.aload_n 0, 1) := by decide +kernel
theorem dX3_copy_16 : decode cX3_copy 16 = .ok (.getfield 9, 3) := by decide +kernel
theorem dX3_copy_19 : decode cX3_copy 19 = .ok (.arraylength, 1) := by decide +kernel
theorem dX3_copy_20 : decode cX3_copy 20 = .ok (.invokestatic 30, 3) := by decide +kernel
theorem dX3_copy_23 : decode cX3_copy 23 = .ok (.invokestatic 36, 3) := by decide +kernel
theorem dX3_copy_26 : decode cX3_copy 26 = .ok (.aload_n 1, 1) := by decide +kernel
theorem dX3_copy_27 : decode cX3_copy 27 = .ok (.getfield 15, 3) := by decide +kernel
theorem dX3_copy_30 : decode cX3_copy 30 = .ok (.iconst 0, 1) := by decide +kernel
theorem dX3_copy_31 : decode cX3_copy 31 = .ok (.aload_n 0, 1) := by decide +kernel
theorem dX3_copy_32 : decode cX3_copy 32 = .ok (.getfield 15, 3) := by decide +kernel
theorem dX3_copy_35 : decode cX3_copy 35 = .ok (.iconst 0, 1) := by decide +kernel
theorem dX3_copy_36 : decode cX3_copy 36 = .ok (.aload_n 1, 1) := by decide +kernel
theorem dX3_copy_37 : decode cX3_copy 37 = .ok (.getfield 15, 3) := by decide +kernel
theorem dX3_copy_40 : decode cX3_copy 40 = .ok (.arraylength, 1) := by decide +kernel
theorem dX3_copy_41 : decode cX3_copy 41 = .ok (.aload_n 0, 1) := by decide +kernel
theorem dX3_copy_42 : decode cX3_copy 42 = .ok (.getfield 15, 3) := by decide +kernel
theorem dX3_copy_45 : decode cX3_copy 45 = .ok (.arraylength, 1) := by decide +kernel
theorem dX3_copy_46 : decode cX3_copy 46 = .ok (.invokestatic 30, 3) := by decide +kernel
theorem dX3_copy_49 : decode cX3_copy 49 = .ok (.invokestatic 36, 3) := by decide +kernel
theorem dX3_copy_52 : decode cX3_copy 52 = .ok (.aload_n 1, 1) := by decide +kernel
theorem dX3_copy_53 : decode cX3_copy 53 = .ok (.getfield 18, 3) := by decide +kernel
theorem dX3_copy_56 : decode cX3_copy 56 = .ok (.iconst 0, 1) := by decide +kernel
theorem dX3_copy_57 : decode cX3_copy 57 = .ok (.aload_n 0, 1) := by decide +kernel
theorem dX3_copy_58 : decode cX3_copy 58 = .ok (.getfield 18, 3) := by decide +kernel
theorem dX3_copy_61 : decode cX3_copy 61 = .ok (.iconst 0, 1) := by decide +kernel
theorem dX3_copy_62 : decode cX3_copy 62 = .ok (.aload_n 1, 1) := by decide +kernel
theorem dX3_copy_63 : decode cX3_copy 63 = .ok (.getfield 18, 3) := by decide +kernel
theorem dX3_copy_66 : decode cX3_copy 66 = .ok (.arraylength, 1) := by decide +kernel
theorem dX3_copy_67 : decode cX3_copy 67 = .ok (.aload_n 0, 1) := by decide +kernel
theorem dX3_copy_68 : decode cX3_copy 68 = .ok (.getfield 18, 3) := by decide +kernel
theorem dX3_copy_71 : decode cX3_copy 71 = .ok (.arraylength, 1) := by decide +kernel
theorem dX3_copy_72 : decode cX3_copy 72 = .ok (.invokestatic 30, 3) := by decide +kernel
theorem dX3_copy_75 : decode cX3_copy 75 = .ok (.invokestatic 36, 3) := by decide +kernel
theorem dX3_copy_78 : decode cX3_copy 78 = .ok (.aload_n 1, 1) := by decide +kernel
theorem dX3_copy_79 : decode cX3_copy 79 = .ok (.getfield 21, 3) := by decide +kernel
theorem dX3_copy_82 : decode cX3_copy 82 = .ok (.iconst 0, 1) := by decide +kernel
theorem dX3_copy_83 : decode cX3_copy 83 = .ok (.aload_n 0, 1) := by decide +kernel
theorem dX3_copy_84 : decode cX3_copy 84 = .ok (.getfield 21, 3) := by decide +kernel
theorem dX3_copy_87 : decode cX3_copy 87 = .ok (.iconst 0, 1) := by decide +kernel
theorem dX3_copy_88 : decode cX3_copy 88 = .ok (.aload_n 1, 1) := by decide +kernel
theorem dX3_copy_89 : decode cX3_copy 89 = .ok (.getfield 21, 3) := by decide +kernel
theorem dX3_copy_92 : decode cX3_copy 92 = .ok (.arraylength, 1) := by decide +kernel
theorem dX3_copy_93 : decode cX3_copy 93 = .ok (.aload_n 0, 1) := by decide +kernel
theorem dX3_copy_94 : decode cX3_copy 94 = .ok (.getfield 21, 3) := by decide +kernel
theorem dX3_copy_97 : decode cX3_copy 97 = .ok (.arraylength, 1) := by decide +kernel
theorem dX3_copy_98 : decode cX3_copy 98 = .ok (.invokestatic 30, 3) := by decide +kernel
theorem dX3_copy_101 : decode cX3_copy 101 = .ok (.invokestatic 36, 3) := by decide +kernel
theorem dX3_copy_104 : decode cX3_copy 104 = .ok (.return_, 1) := by decide +kernel
theorem dX3_number_0 : decode cX3_number 0 = .ok (.iload_n 1, 1) := by decide +kernel
theorem dX3_number_1 : decode cX3_number 1 = .ok (.ifCond .lt 21, 3) := by decide +kernel
theorem dX3_number_4 : decode cX3_number 4 = .ok (.iload_n 1, 1) := by decide +kernel
theorem dX3_number_5 : decode cX3_number 5 = .ok (.aload_n 0, 1) := by decide +kernel
theorem dX3_number_6 : decode cX3_number 6 = .ok (.getfield 9, 3) := by decide +kernel
theorem dX3_number_9 : decode cX3_number 9 = .ok (.arraylength, 1) := by decide +kernel
theorem dX3_number_10 : decode cX3_number 10 = .ok (.if_icmp .ge 12, 3) := by decide +kernel
theorem dX3_number_13 : decode cX3_number 13 = .ok (.aload_n 0, 1) := by decide +kernel
theorem dX3_number_14 : decode cX3_number 14 = .ok (.getfield 9, 3) := by decide +kernel
theorem dX3_number_17 : decode cX3_number 17 = .ok (.iload_n 1, 1) := by decide +kernel
theorem dX3_number_18 : decode cX3_number 18 = .ok (.iaload, 1) := by decide +kernel
theorem dX3_number_19 : decode cX3_number 19 = .ok (.goto 4, 3) := by decide +kernel
theorem dX3_number_22 : decode cX3_number 22 = .ok (.iconst 0, 1) := by decide +kernel
theorem dX3_number_23 : decode cX3_number 23 = .ok (.ireturn, 1) := by decide +kernel
theorem dX3_lower_0 : decode cX3_lower 0 = .ok (.aload_n 0, 1) := by decide +kernel
theorem dX3_lower_1 : decode cX3_lower 1 = .ok (.getfield 21, 3) := by decide +kernel
theorem dX3_lower_4 : decode cX3_lower 4 = .ok (.iload_n 1, 1) := by decide +kernel
theorem dX3_lower_5 : decode cX3_lower 5 = .ok (.invokestatic 48, 3) := by decide +kernel
theorem dX3_lower_8 : decode cX3_lower 8 = .ok (.ireturn, 1) := by decide +kernel
theorem dX3_depth_0 : decode cX3_depth 0 = .ok (.iload_n 1, 1) := by decide +kernel
theorem dX3_depth_1 : decode cX3_depth 1 = .ok (.ifCond .lt 23, 3) := by decide +kernel
theorem dX3_depth_4 : decode cX3_depth 4 = .ok (.iload_n 1, 1) := by decide +kernel
theorem dX3_depth_5 : decode cX3_depth 5 = .ok (.aload_n 0, 1) := by decide +kernel
theorem dX3_depth_6 : decode cX3_depth 6 = .ok (.getfield 15, 3) := by decide +kernel
theorem dX3_depth_9 : decode cX3_depth 9 = .ok (.arraylength, 1) := by decide +kernel
theorem dX3_depth_10 : decode cX3_depth 10 = .ok (.if_icmp .ge 14, 3) := by decide +kernel
theorem dX3_depth_13 : decode cX3_depth 13 = .ok (.aload_n 0, 1) := by decide +kernel
theorem dX3_depth_14 : decode cX3_depth 14 = .ok (.getfield 15, 3) := by decide +kernel
theorem dX3_depth_17 : decode cX3_depth 17 = .ok (.iload_n 1, 1) := by decide +kernel
theorem dX3_depth_18 : decode cX3_depth 18 = .ok (.iaload, 1) := by decide +kernel
theorem dX3_depth_19 : decode cX3_depth 19 = .ok (.iload_n 2, 1) := by decide +kernel
theorem dX3_depth_20 : decode cX3_depth 20 = .ok (.isub, 1) := by decide +kernel
theorem dX3_depth_21 : decode cX3_depth 21 = .ok (.goto 4, 3) := by decide +kernel
theorem dX3_depth_24 : decode cX3_depth 24 = .ok (.iconst 0, 1) := by decide +kernel
theorem dX3_depth_25 : decode cX3_depth 25 = .ok (.istore_n 3, 1) := by decide +kernel
theorem dX3_depth_26 : decode cX3_depth 26 = .ok (.iload_n 3, 1) := by decide +kernel
theorem dX3_depth_27 : decode cX3_depth 27 = .ok (.ifCond .ge 7, 3) := by decide +kernel
theorem dX3_depth_30 : decode cX3_depth 30 = .ok (.iconst 0, 1) := by decide +kernel
theorem dX3_depth_31 : decode cX3_depth 31 = .ok (.goto 4, 3) := by decide +kernel
theorem dX3_depth_34 : decode cX3_depth 34 = .ok (.iload_n 3, 1) := by decide +kernel
theorem dX3_depth_35 : decode cX3_depth 35 = .ok (.ireturn, 1) := by decide +kernel
theorem dX3_kind_0 : decode cX3_kind 0 = .ok (.bipush 8, 2) := by decide +kernel
theorem dX3_kind_2 : decode cX3_kind 2 = .ok (.aload_n 0, 1) := by decide +kernel
theorem dX3_kind_3 : decode cX3_kind 3 = .ok (.getfield 9, 3) := by decide +kernel
theorem dX3_kind_6 : decode cX3_kind 6 = .ok (.arraylength, 1) := by decide +kernel
theorem dX3_kind_7 : decode cX3_kind 7 = .ok (.if_icmp .ge 16, 3) := by decide +kernel
theorem dX3_kind_10 : decode cX3_kind 10 = .ok (.iload_n 1, 1) := by decide +kernel
theorem dX3_kind_11 : decode cX3_kind 11 = .ok (.aload_n 0, 1) := by decide +kernel
theorem dX3_kind_12 : decode cX3_kind 12 = .ok (.getfield 9, 3) := by decide +kernel
theorem dX3_kind_15 : decode cX3_kind 15 = .ok (.bipush 8, 2) := by decide +kernel
theorem dX3_kind_17 : decode cX3_kind 17 = .ok (.iaload, 1) := by decide +kernel
theorem dX3_kind_18 : decode cX3_kind 18 = .ok (.if_icmp .lt 5, 3) := by decide +kernel
theorem dX3_kind_21 : decode cX3_kind 21 = .ok (.iconst 2, 1) := by decide +kernel
theorem dX3_kind_22 : decode cX3_kind 22 = .ok (.ireturn, 1) := by decide +kernel
theorem dX3_kind_23 : decode cX3_kind 23 = .ok (.iload_n 1, 1) := by decide +kernel
theorem dX3_kind_24 : decode cX3_kind 24 = .ok (.ifCond .lt 25, 3) := by decide +kernel
theorem dX3_kind_27 : decode cX3_kind 27 = .ok (.iload_n 1, 1) := by decide +kernel
theorem dX3_kind_28 : decode cX3_kind 28 = .ok (.aload_n 0, 1) := by decide +kernel
theorem dX3_kind_29 : decode cX3_kind 29 = .ok (.getfield 18, 3) := by decide +kernel
theorem dX3_kind_32 : decode cX3_kind 32 = .ok (.arraylength, 1) := by decide +kernel
theorem dX3_kind_33 : decode cX3_kind 33 = .ok (.if_icmp .ge 16, 3) := by decide +kernel
theorem dX3_kind_36 : decode cX3_kind 36 = .ok (.aload_n 0, 1) := by decide +kernel
theorem dX3_kind_37 : decode cX3_kind 37 = .ok (.getfield 18, 3) := by decide +kernel
theorem dX3_kind_40 : decode cX3_kind 40 = .ok (.iload_n 1, 1) := by decide +kernel
theorem dX3_kind_41 : decode cX3_kind 41 = .ok (.iaload, 1) := by decide +kernel
theorem dX3_kind_42 : decode cX3_kind 42 = .ok (.ifCond .eq 7, 3) := by decide +kernel
theorem dX3_kind_45 : decode cX3_kind 45 = .ok (.iconst 1, 1) := by decide +kernel
theorem dX3_kind_46 : decode cX3_kind 46 = .ok (.goto 4, 3) := by decide +kernel
theorem dX3_kind_49 : decode cX3_kind 49 = .ok (.iconst 0, 1) := by decide +kernel
theorem dX3_kind_50 : decode cX3_kind 50 = .ok (.ireturn, 1) := by decide +kernel
theorem dX3_cellAt_0 : decode cX3_cellAt 0 = .ok (.iload_n 0, 1) := by decide +kernel
theorem dX3_cellAt_1 : decode cX3_cellAt 1 = .ok (.sipush (-300), 3) := by decide +kernel
theorem dX3_cellAt_4 : decode cX3_cellAt 4 = .ok (.if_icmp .ge 7, 3) := by decide +kernel
theorem dX3_cellAt_7 : decode cX3_cellAt 7 = .ok (.iconst 0, 1) := by decide +kernel
theorem dX3_cellAt_8 : decode cX3_cellAt 8 = .ok (.goto 16, 3) := by decide +kernel
theorem dX3_cellAt_11 : decode cX3_cellAt 11 = .ok (.iload_n 0, 1) := by decide +kernel
theorem dX3_cellAt_12 : decode cX3_cellAt 12 = .ok (.sipush 300, 3) := by decide +kernel
theorem dX3_cellAt_15 : decode cX3_cellAt 15 = .ok (.iadd, 1) := by decide +kernel
theorem dX3_cellAt_16 : decode cX3_cellAt 16 = .ok (.bipush 50, 2) := by decide +kernel
theorem dX3_cellAt_18 : decode cX3_cellAt 18 = .ok (.idiv, 1) := by decide +kernel
theorem dX3_cellAt_19 : decode cX3_cellAt 19 = .ok (.bipush 23, 2) := by decide +kernel
theorem dX3_cellAt_21 : decode cX3_cellAt 21 = .ok (.invokestatic 30, 3) := by decide +kernel
theorem dX3_cellAt_24 : decode cX3_cellAt 24 = .ok (.ireturn, 1) := by decide +kernel
theorem dX4_init_0 : decode cX4_init 0 = .ok (.aload_n 0, 1) := by decide +kernel
theorem dX4_init_1 : decode cX4_init 1 = .ok (.invokespecial 3, 3) := by decide +kernel
theorem dX4_init_4 : decode cX4_init 4 = .ok (.aload_n 0, 1) := by decide +kernel
theorem dX4_init_5 : decode cX4_init 5 = .ok (.aload_n 1, 1) := by decide +kernel
theorem dX4_init_6 : decode cX4_init 6 = .ok (.putfield 9, 3) := by decide +kernel
theorem dX4_init_9 : decode cX4_init 9 = .ok (.return_, 1) := by decide +kernel
theorem dX4_faultNumber_0 : decode cX4_faultNumber 0 = .ok (.aload_n 0, 1) := by decide +kernel
theorem dX4_faultNumber_1 : decode cX4_faultNumber 1 = .ok (.getfield 15, 3) := by decide +kernel
theorem dX4_faultNumber_4 : decode cX4_faultNumber 4 = .ok (.ireturn, 1) := by decide +kernel
theorem dX4_faultAt_0 : decode cX4_faultAt 0 = .ok (.aload_n 0, 1) := by decide +kernel
theorem dX4_faultAt_1 : decode cX4_faultAt 1 = .ok (.getfield 19, 3) := by decide +kernel
theorem dX4_faultAt_4 : decode cX4_faultAt 4 = .ok (.ireturn, 1) := by decide +kernel
theorem dX4_clauses_0 : decode cX4_clauses 0 = .ok (.aload_n 0, 1) := by decide +kernel
theorem dX4_clauses_1 : decode cX4_clauses 1 = .ok (.getfield 22, 3) := by decide +kernel
theorem dX4_clauses_4 : decode cX4_clauses 4 = .ok (.ireturn, 1) := by decide +kernel
theorem dX4_readPlace_0 : decode cX4_readPlace 0 = .ok (.aload_n 0, 1) := by decide +kernel
theorem dX4_readPlace_1 : decode cX4_readPlace 1 = .ok (.invokevirtual 25, 3) := by decide +kernel
theorem dX4_readPlace_4 : decode cX4_readPlace 4 = .ok (.iconst 0, 1) := by decide +kernel
theorem dX4_readPlace_5 : decode cX4_readPlace 5 = .ok (.istore_n 2, 1) := by decide +kernel
theorem dX4_readPlace_6 : decode cX4_readPlace 6 = .ok (.iconst 0, 1) := by decide +kernel
theorem dX4_readPlace_7 : decode cX4_readPlace 7 = .ok (.istore_n 3, 1) := by decide +kernel
theorem dX4_readPlace_8 : decode cX4_readPlace 8 = .ok (.iload_n 3, 1) := by decide +kernel
theorem dX4_readPlace_9 : decode cX4_readPlace 9 = .ok (.bipush 9, 2) := by decide +kernel
theorem dX4_readPlace_11 : decode cX4_readPlace 11 = .ok (.if_icmp .gt 80, 3) := by decide +kernel
theorem dX4_readPlace_14 : decode cX4_readPlace 14 = .ok (.aload_n 0, 1) := by decide +kernel
theorem dX4_readPlace_15 : decode cX4_readPlace 15 = .ok (.invokevirtual 28, 3) := by decide +kernel
theorem dX4_readPlace_18 : decode cX4_readPlace 18 = .ok (.aload_n 0, 1) := by decide +kernel
theorem dX4_readPlace_19 : decode cX4_readPlace 19 = .ok (.getfield 31, 3) := by decide +kernel
theorem dX4_readPlace_22 : decode cX4_readPlace 22 = .ok (.ifCond .ne 10, 3) := by decide +kernel
theorem dX4_readPlace_25 : decode cX4_readPlace 25 = .ok (.aload_n 0, 1) := by decide +kernel
theorem dX4_readPlace_26 : decode cX4_readPlace 26 = .ok (.iload_n 3, 1) := by decide +kernel
theorem dX4_readPlace_27 : decode cX4_readPlace 27 = .ok (.putfield 22, 3) := by decide +kernel
theorem dX4_readPlace_30 : decode cX4_readPlace 30 = .ok (.iconst 1, 1) := by decide +kernel
theorem dX4_readPlace_31 : decode cX4_readPlace 31 = .ok (.ireturn, 1) := by decide +kernel
theorem dX4_readPlace_32 : decode cX4_readPlace 32 = .ok (.aload_n 0, 1) := by decide +kernel
theorem dX4_readPlace_33 : decode cX4_readPlace 33 = .ok (.invokevirtual 34, 3) := by decide +kernel
theorem dX4_readPlace_36 : decode cX4_readPlace 36 = .ok (.istore 4, 2) := by decide +kernel
theorem dX4_readPlace_38 : decode cX4_readPlace 38 = .ok (.iload 4, 2) := by decide +kernel
theorem dX4_readPlace_40 : decode cX4_readPlace 40 = .ok (.iconst (-1), 1) := by decide +kernel
theorem dX4_readPlace_41 : decode cX4_readPlace 41 = .ok (.if_icmp .ne 9, 3) := by decide +kernel
theorem dX4_readPlace_44 : decode cX4_readPlace 44 = .ok (.aload_n 0, 1) := by decide +kernel
theorem dX4_readPlace_45 : decode cX4_readPlace 45 = .ok (.iconst 1, 1) := by decide +kernel
theorem dX4_readPlace_46 : decode cX4_readPlace 46 = .ok (.invokevirtual 38, 3) := by decide +kernel
theorem dX4_readPlace_49 : decode cX4_readPlace 49 = .ok (.ireturn, 1) := by decide +kernel
theorem dX4_readPlace_50 : decode cX4_readPlace 50 = .ok (.iload_n 2, 1) := by decide +kernel
theorem dX4_readPlace_51 : decode cX4_readPlace 51 = .ok (.iload 4, 2) := by decide +kernel
theorem dX4_readPlace_53 : decode cX4_readPlace 53 = .ok (.ishr, 1) := by decide +kernel
theorem dX4_readPlace_54 : decode cX4_readPlace 54 = .ok (.iconst 1, 1) := by decide +kernel
theorem dX4_readPlace_55 : decode cX4_readPlace 55 = .ok (.iand, 1) := by decide +kernel
theorem dX4_readPlace_56 : decode cX4_readPlace 56 = .ok (.iconst 1, 1) := by decide +kernel
theorem dX4_readPlace_57 : decode cX4_readPlace 57 = .ok (.if_icmp .ne 9, 3) := by decide +kernel
theorem dX4_readPlace_60 : decode cX4_readPlace 60 = .ok (.aload_n 0, 1) := by decide +kernel
theorem dX4_readPlace_61 : decode cX4_readPlace 61 = .ok (.iconst 3, 1) := by decide +kernel
theorem dX4_readPlace_62 : decode cX4_readPlace 62 = .ok (.invokevirtual 38, 3) := by decide +kernel
theorem dX4_readPlace_65 : decode cX4_readPlace 65 = .ok (.ireturn, 1) := by decide +kernel
theorem dX4_readPlace_66 : decode cX4_readPlace 66 = .ok (.iload_n 2, 1) := by decide +kernel
theorem dX4_readPlace_67 : decode cX4_readPlace 67 = .ok (.iconst 1, 1) := by decide +kernel
theorem dX4_readPlace_68 : decode cX4_readPlace 68 = .ok (.iload 4, 2) := by decide +kernel
theorem dX4_readPlace_70 : decode cX4_readPlace 70 = .ok (.ishl, 1) := by decide +kernel
theorem dX4_readPlace_71 : decode cX4_readPlace 71 = .ok (.ior, 1) := by decide +kernel
theorem dX4_readPlace_72 : decode cX4_readPlace 72 = .ok (.istore_n 2, 1) := by decide +kernel
theorem dX4_readPlace_73 : decode cX4_readPlace 73 = .ok (.aload_n 0, 1) := by decide +kernel
theorem dX4_readPlace_74 : decode cX4_readPlace 74 = .ok (.iload 4, 2) := by decide +kernel
theorem dX4_readPlace_76 : decode cX4_readPlace 76 = .ok (.aload_n 1, 1) := by decide +kernel
theorem dX4_readPlace_77 : decode cX4_readPlace 77 = .ok (.invokevirtual 42, 3) := by decide +kernel
theorem dX4_readPlace_80 : decode cX4_readPlace 80 = .ok (.ifCond .ne 5, 3) := by decide +kernel
theorem dX4_readPlace_83 : decode cX4_readPlace 83 = .ok (.iconst 0, 1) := by decide +kernel
theorem dX4_readPlace_84 : decode cX4_readPlace 84 = .ok (.ireturn, 1) := by decide +kernel
theorem dX4_readPlace_85 : decode cX4_readPlace 85 = .ok (.iinc 3 1, 3) := by decide +kernel
theorem dX4_readPlace_88 : decode cX4_readPlace 88 = .ok (.goto (-80), 3) := by decide +kernel
theorem dX4_readPlace_91 : decode cX4_readPlace 91 = .ok (.aload_n 0, 1) := by decide +kernel
theorem dX4_readPlace_92 : decode cX4_readPlace 92 = .ok (.iconst 3, 1) := by decide +kernel
theorem dX4_readPlace_93 : decode cX4_readPlace 93 = .ok (.invokevirtual 38, 3) := by decide +kernel
theorem dX4_readPlace_96 : decode cX4_readPlace 96 = .ok (.ireturn, 1) := by decide +kernel
theorem dX4_readSwinger_0 : decode cX4_readSwinger 0 = .ok (.aload_n 0, 1) := by decide +kernel
theorem dX4_readSwinger_1 : decode cX4_readSwinger 1 = .ok (.invokevirtual 25, 3) := by decide +kernel
theorem dX4_readSwinger_4 : decode cX4_readSwinger 4 = .ok (.iconst 0, 1) := by decide +kernel
theorem dX4_readSwinger_5 : decode cX4_readSwinger 5 = .ok (.istore_n 2, 1) := by decide +kernel
theorem dX4_readSwinger_6 : decode cX4_readSwinger 6 = .ok (.iload_n 2, 1) := by decide +kernel
theorem dX4_readSwinger_7 : decode cX4_readSwinger 7 = .ok (.iconst 5, 1) := by decide +kernel
theorem dX4_readSwinger_8 : decode cX4_readSwinger 8 = .ok (.if_icmp .ge 38, 3) := by decide +kernel
theorem dX4_readSwinger_11 : decode cX4_readSwinger 11 = .ok (.aload_n 0, 1) := by decide +kernel
theorem dX4_readSwinger_12 : decode cX4_readSwinger 12 = .ok (.iload_n 2, 1) := by decide +kernel
theorem dX4_readSwinger_13 : decode cX4_readSwinger 13 = .ok (.invokestatic 48, 3) := by decide +kernel
theorem dX4_readSwinger_16 : decode cX4_readSwinger 16 = .ok (.iload_n 2, 1) := by decide +kernel
theorem dX4_readSwinger_17 : decode cX4_readSwinger 17 = .ok (.invokestatic 52, 3) := by decide +kernel
theorem dX4_readSwinger_20 : decode cX4_readSwinger 20 = .ok (.invokevirtual 55, 3) := by decide +kernel
theorem dX4_readSwinger_23 : decode cX4_readSwinger 23 = .ok (.ifCond .ne 5, 3) := by decide +kernel
theorem dX4_readSwinger_26 : decode cX4_readSwinger 26 = .ok (.iconst 0, 1) := by decide +kernel
theorem dX4_readSwinger_27 : decode cX4_readSwinger 27 = .ok (.ireturn, 1) := by decide +kernel
theorem dX4_readSwinger_28 : decode cX4_readSwinger 28 = .ok (.aload_n 1, 1) := by decide +kernel
theorem dX4_readSwinger_29 : decode cX4_readSwinger 29 = .ok (.getfield 59, 3) := by decide +kernel
theorem dX4_readSwinger_32 : decode cX4_readSwinger 32 = .ok (.iload_n 2, 1) := by decide +kernel
theorem dX4_readSwinger_33 : decode cX4_readSwinger 33 = .ok (.aload_n 0, 1) := by decide +kernel
theorem dX4_readSwinger_34 : decode cX4_readSwinger 34 = .ok (.getfield 63, 3) := by decide +kernel
theorem dX4_readSwinger_37 : decode cX4_readSwinger 37 = .ok (.invokestatic 66, 3) := by decide +kernel
theorem dX4_readSwinger_40 : decode cX4_readSwinger 40 = .ok (.iinc 2 1, 3) := by decide +kernel
theorem dX4_readSwinger_43 : decode cX4_readSwinger 43 = .ok (.goto (-37), 3) := by decide +kernel
theorem dX4_readSwinger_46 : decode cX4_readSwinger 46 = .ok (.aload_n 0, 1) := by decide +kernel
theorem dX4_readSwinger_47 : decode cX4_readSwinger 47 = .ok (.invokevirtual 28, 3) := by decide +kernel
theorem dX4_readSwinger_50 : decode cX4_readSwinger 50 = .ok (.aload_n 0, 1) := by decide +kernel
theorem dX4_readSwinger_51 : decode cX4_readSwinger 51 = .ok (.getfield 31, 3) := by decide +kernel
theorem dX4_readSwinger_54 : decode cX4_readSwinger 54 = .ok (.ifCond .eq 11, 3) := by decide +kernel
theorem dX4_readSwinger_57 : decode cX4_readSwinger 57 = .ok (.aload_n 0, 1) := by decide +kernel
theorem dX4_readSwinger_58 : decode cX4_readSwinger 58 = .ok (.iconst 1, 1) := by decide +kernel
theorem dX4_readSwinger_59 : decode cX4_readSwinger 59 = .ok (.invokevirtual 38, 3) := by decide +kernel
theorem dX4_readSwinger_62 : decode cX4_readSwinger 62 = .ok (.ifCond .eq 7, 3) := by decide +kernel
theorem dX4_readSwinger_65 : decode cX4_readSwinger 65 = .ok (.iconst 1, 1) := by decide +kernel
theorem dX4_readSwinger_66 : decode cX4_readSwinger 66 = .ok (.goto 4, 3) := by decide +kernel
theorem dX4_readSwinger_69 : decode cX4_readSwinger 69 = .ok (.iconst 0, 1) := by decide +kernel
theorem dX4_readSwinger_70 : decode cX4_readSwinger 70 = .ok (.ireturn, 1) := by decide +kernel
theorem dX4_readClause_0 : decode cX4_readClause 0 = .ok (.iload_n 1, 1) := by decide +kernel
theorem dX4_readClause_1 : decode cX4_readClause 1 = .ok (.tableswitch 60 6 8 #[27, 39, 48], 27) := by decide +kernel
theorem dX4_readClause_28 : decode cX4_readClause 28 = .ok (.aload_n 0, 1) := by decide +kernel
theorem dX4_readClause_29 : decode cX4_readClause 29 = .ok (.aload_n 2, 1) := by decide +kernel
theorem dX4_readClause_30 : decode cX4_readClause 30 = .ok (.getfield 70, 3) := by decide +kernel
theorem dX4_readClause_33 : decode cX4_readClause 33 = .ok (.sipush 600, 3) := by decide +kernel
theorem dX4_readClause_36 : decode cX4_readClause 36 = .ok (.invokevirtual 75, 3) := by decide +kernel
theorem dX4_readClause_39 : decode cX4_readClause 39 = .ok (.ireturn, 1) := by decide +kernel
theorem dX4_readClause_40 : decode cX4_readClause 40 = .ok (.aload_n 0, 1) := by decide +kernel
theorem dX4_readClause_41 : decode cX4_readClause 41 = .ok (.aload_n 2, 1) := by decide +kernel
theorem dX4_readClause_42 : decode cX4_readClause 42 = .ok (.getfield 79, 3) := by decide +kernel
theorem dX4_readClause_45 : decode cX4_readClause 45 = .ok (.invokevirtual 82, 3) := by decide +kernel
theorem dX4_readClause_48 : decode cX4_readClause 48 = .ok (.ireturn, 1) := by decide +kernel
theorem dX4_readClause_49 : decode cX4_readClause 49 = .ok (.aload_n 0, 1) := by decide +kernel
theorem dX4_readClause_50 : decode cX4_readClause 50 = .ok (.aload_n 2, 1) := by decide +kernel
theorem dX4_readClause_51 : decode cX4_readClause 51 = .ok (.getfield 86, 3) := by decide +kernel
theorem dX4_readClause_54 : decode cX4_readClause 54 = .ok (.sipush 300, 3) := by decide +kernel
theorem dX4_readClause_57 : decode cX4_readClause 57 = .ok (.invokevirtual 75, 3) := by decide +kernel
theorem dX4_readClause_60 : decode cX4_readClause 60 = .ok (.ireturn, 1) := by decide +kernel
theorem dX4_readClause_61 : decode cX4_readClause 61 = .ok (.aload_n 0, 1) := by decide +kernel
theorem dX4_readClause_62 : decode cX4_readClause 62 = .ok (.getstatic 89, 3) := by decide +kernel
theorem dX4_readClause_65 : decode cX4_readClause 65 = .ok (.iload_n 1, 1) := by decide +kernel
theorem dX4_readClause_66 : decode cX4_readClause 66 = .ok (.invokestatic 92, 3) := by decide +kernel
theorem dX4_readClause_69 : decode cX4_readClause 69 = .ok (.getstatic 96, 3) := by decide +kernel
theorem dX4_readClause_72 : decode cX4_readClause 72 = .ok (.iload_n 1, 1) := by decide +kernel
theorem dX4_readClause_73 : decode cX4_readClause 73 = .ok (.invokestatic 92, 3) := by decide +kernel
theorem dX4_readClause_76 : decode cX4_readClause 76 = .ok (.aload_n 2, 1) := by decide +kernel
theorem dX4_readClause_77 : decode cX4_readClause 77 = .ok (.getfield 99, 3) := by decide +kernel
theorem dX4_readClause_80 : decode cX4_readClause 80 = .ok (.invokevirtual 100, 3) := by decide +kernel
theorem dX4_readClause_83 : decode cX4_readClause 83 = .ok (.ireturn, 1) := by decide +kernel
theorem dX4_readNumbers_0 : decode cX4_readNumbers 0 = .ok (.iload_n 1, 1) := by decide +kernel
theorem dX4_readNumbers_1 : decode cX4_readNumbers 1 = .ok (.istore 4, 2) := by decide +kernel
theorem dX4_readNumbers_3 : decode cX4_readNumbers 3 = .ok (.iload 4, 2) := by decide +kernel
theorem dX4_readNumbers_5 : decode cX4_readNumbers 5 = .ok (.iload_n 1, 1) := by decide +kernel
theorem dX4_readNumbers_6 : decode cX4_readNumbers 6 = .ok (.iload_n 2, 1) := by decide +kernel
theorem dX4_readNumbers_7 : decode cX4_readNumbers 7 = .ok (.iadd, 1) := by decide +kernel
theorem dX4_readNumbers_8 : decode cX4_readNumbers 8 = .ok (.if_icmp .ge 44, 3) := by decide +kernel
theorem dX4_readNumbers_11 : decode cX4_readNumbers 11 = .ok (.aload_n 0, 1) := by decide +kernel
theorem dX4_readNumbers_12 : decode cX4_readNumbers 12 = .ok (.getstatic 104, 3) := by decide +kernel
theorem dX4_readNumbers_15 : decode cX4_readNumbers 15 = .ok (.iload 4, 2) := by decide +kernel
theorem dX4_readNumbers_17 : decode cX4_readNumbers 17 = .ok (.invokestatic 92, 3) := by decide +kernel
theorem dX4_readNumbers_20 : decode cX4_readNumbers 20 = .ok (.getstatic 107, 3) := by decide +kernel
theorem dX4_readNumbers_23 : decode cX4_readNumbers 23 = .ok (.iload 4, 2) := by decide +kernel
theorem dX4_readNumbers_25 : decode cX4_readNumbers 25 = .ok (.invokestatic 92, 3) := by decide +kernel
theorem dX4_readNumbers_28 : decode cX4_readNumbers 28 = .ok (.invokevirtual 55, 3) := by decide +kernel
theorem dX4_readNumbers_31 : decode cX4_readNumbers 31 = .ok (.ifCond .ne 5, 3) := by decide +kernel
theorem dX4_readNumbers_34 : decode cX4_readNumbers 34 = .ok (.iconst 0, 1) := by decide +kernel
theorem dX4_readNumbers_35 : decode cX4_readNumbers 35 = .ok (.ireturn, 1) := by decide +kernel
theorem dX4_readNumbers_36 : decode cX4_readNumbers 36 = .ok (.aload_n 3, 1) := by decide +kernel
theorem dX4_readNumbers_37 : decode cX4_readNumbers 37 = .ok (.iload 4, 2) := by decide +kernel
theorem dX4_readNumbers_39 : decode cX4_readNumbers 39 = .ok (.aload_n 0, 1) := by decide +kernel
theorem dX4_readNumbers_40 : decode cX4_readNumbers 40 = .ok (.getfield 63, 3) := by decide +kernel
theorem dX4_readNumbers_43 : decode cX4_readNumbers 43 = .ok (.invokestatic 66, 3) := by decide +kernel
theorem dX4_readNumbers_46 : decode cX4_readNumbers 46 = .ok (.iinc 4 1, 3) := by decide +kernel
theorem dX4_readNumbers_49 : decode cX4_readNumbers 49 = .ok (.goto (-46), 3) := by decide +kernel
theorem dX4_readNumbers_52 : decode cX4_readNumbers 52 = .ok (.aload_n 0, 1) := by decide +kernel
theorem dX4_readNumbers_53 : decode cX4_readNumbers 53 = .ok (.invokevirtual 28, 3) := by decide +kernel
theorem dX4_readNumbers_56 : decode cX4_readNumbers 56 = .ok (.aload_n 0, 1) := by decide +kernel
theorem dX4_readNumbers_57 : decode cX4_readNumbers 57 = .ok (.bipush 59, 2) := by decide +kernel
theorem dX4_readNumbers_59 : decode cX4_readNumbers 59 = .ok (.invokevirtual 110, 3) := by decide +kernel
theorem dX4_readNumbers_62 : decode cX4_readNumbers 62 = .ok (.ifCond .ne 11, 3) := by decide +kernel
theorem dX4_readNumbers_65 : decode cX4_readNumbers 65 = .ok (.aload_n 0, 1) := by decide +kernel
theorem dX4_readNumbers_66 : decode cX4_readNumbers 66 = .ok (.iconst 1, 1) := by decide +kernel
theorem dX4_readNumbers_67 : decode cX4_readNumbers 67 = .ok (.invokevirtual 38, 3) := by decide +kernel
theorem dX4_readNumbers_70 : decode cX4_readNumbers 70 = .ok (.ifCond .eq 7, 3) := by decide +kernel
theorem dX4_readNumbers_73 : decode cX4_readNumbers 73 = .ok (.iconst 1, 1) := by decide +kernel
theorem dX4_readNumbers_74 : decode cX4_readNumbers 74 = .ok (.goto 4, 3) := by decide +kernel
theorem dX4_readNumbers_77 : decode cX4_readNumbers 77 = .ok (.iconst 0, 1) := by decide +kernel
theorem dX4_readNumbers_78 : decode cX4_readNumbers 78 = .ok (.ireturn, 1) := by decide +kernel
theorem dX4_readList_0 : decode cX4_readList 0 = .ok (.iconst 0, 1) := by decide +kernel
theorem dX4_readList_1 : decode cX4_readList 1 = .ok (.istore_n 3, 1) := by decide +kernel
theorem dX4_readList_2 : decode cX4_readList 2 = .ok (.iload_n 3, 1) := by decide +kernel
theorem dX4_readList_3 : decode cX4_readList 3 = .ok (.aload_n 1, 1) := by decide +kernel
theorem dX4_readList_4 : decode cX4_readList 4 = .ok (.arraylength, 1) := by decide +kernel
theorem dX4_readList_5 : decode cX4_readList 5 = .ok (.if_icmp .gt 57, 3) := by decide +kernel
theorem dX4_readList_8 : decode cX4_readList 8 = .ok (.aload_n 0, 1) := by decide +kernel
theorem dX4_readList_9 : decode cX4_readList 9 = .ok (.iconst 0, 1) := by decide +kernel
theorem dX4_readList_10 : decode cX4_readList 10 = .ok (.iload_n 2, 1) := by decide +kernel
theorem dX4_readList_11 : decode cX4_readList 11 = .ok (.invokevirtual 55, 3) := by decide +kernel
theorem dX4_readList_14 : decode cX4_readList 14 = .ok (.ifCond .ne 5, 3) := by decide +kernel
theorem dX4_readList_17 : decode cX4_readList 17 = .ok (.iconst 0, 1) := by decide +kernel
theorem dX4_readList_18 : decode cX4_readList 18 = .ok (.ireturn, 1) := by decide +kernel
theorem dX4_readList_19 : decode cX4_readList 19 = .ok (.iload_n 3, 1) := by decide +kernel
theorem dX4_readList_20 : decode cX4_readList 20 = .ok (.aload_n 1, 1) := by decide +kernel
theorem dX4_readList_21 : decode cX4_readList 21 = .ok (.arraylength, 1) := by decide +kernel
theorem dX4_readList_22 : decode cX4_readList 22 = .ok (.if_icmp .ne 9, 3) := by decide +kernel
theorem dX4_readList_25 : decode cX4_readList 25 = .ok (.aload_n 0, 1) := by decide +kernel
theorem dX4_readList_26 : decode cX4_readList 26 = .ok (.iconst 4, 1) := by decide +kernel
theorem dX4_readList_27 : decode cX4_readList 27 = .ok (.invokevirtual 38, 3) := by decide +kernel
theorem dX4_readList_30 : decode cX4_readList 30 = .ok (.ireturn, 1) := by decide +kernel
theorem dX4_readList_31 : decode cX4_readList 31 = .ok (.aload_n 1, 1) := by decide +kernel
theorem dX4_readList_32 : decode cX4_readList 32 = .ok (.iload_n 3, 1) := by decide +kernel
theorem dX4_readList_33 : decode cX4_readList 33 = .ok (.aload_n 0, 1) := by decide +kernel
theorem dX4_readList_34 : decode cX4_readList 34 = .ok (.getfield 63, 3) := by decide +kernel
theorem dX4_readList_37 : decode cX4_readList 37 = .ok (.invokestatic 66, 3) := by decide +kernel
theorem dX4_readList_40 : decode cX4_readList 40 = .ok (.aload_n 0, 1) := by decide +kernel
theorem dX4_readList_41 : decode cX4_readList 41 = .ok (.invokevirtual 28, 3) := by decide +kernel
theorem dX4_readList_44 : decode cX4_readList 44 = .ok (.aload_n 0, 1) := by decide +kernel
theorem dX4_readList_45 : decode cX4_readList 45 = .ok (.bipush 44, 2) := by decide +kernel
theorem dX4_readList_47 : decode cX4_readList 47 = .ok (.invokevirtual 110, 3) := by decide +kernel
theorem dX4_readList_50 : decode cX4_readList 50 = .ok (.ifCond .ne 6, 3) := by decide +kernel
theorem dX4_readList_53 : decode cX4_readList 53 = .ok (.goto 9, 3) := by decide +kernel
theorem dX4_readList_56 : decode cX4_readList 56 = .ok (.iinc 3 1, 3) := by decide +kernel
theorem dX4_readList_59 : decode cX4_readList 59 = .ok (.goto (-57), 3) := by decide +kernel
theorem dX4_readList_62 : decode cX4_readList 62 = .ok (.aload_n 0, 1) := by decide +kernel
theorem dX4_readList_63 : decode cX4_readList 63 = .ok (.bipush 59, 2) := by decide +kernel
theorem dX4_readList_65 : decode cX4_readList 65 = .ok (.invokevirtual 110, 3) := by decide +kernel
theorem dX4_readList_68 : decode cX4_readList 68 = .ok (.ifCond .ne 11, 3) := by decide +kernel
theorem dX4_readList_71 : decode cX4_readList 71 = .ok (.aload_n 0, 1) := by decide +kernel
theorem dX4_readList_72 : decode cX4_readList 72 = .ok (.iconst 1, 1) := by decide +kernel
theorem dX4_readList_73 : decode cX4_readList 73 = .ok (.invokevirtual 38, 3) := by decide +kernel
theorem dX4_readList_76 : decode cX4_readList 76 = .ok (.ifCond .eq 7, 3) := by decide +kernel
theorem dX4_readList_79 : decode cX4_readList 79 = .ok (.iconst 1, 1) := by decide +kernel
theorem dX4_readList_80 : decode cX4_readList 80 = .ok (.goto 4, 3) := by decide +kernel
theorem dX4_readList_83 : decode cX4_readList 83 = .ok (.iconst 0, 1) := by decide +kernel
theorem dX4_readList_84 : decode cX4_readList 84 = .ok (.ireturn, 1) := by decide +kernel
theorem dX4_readStones_0 : decode cX4_readStones 0 = .ok (.iconst 0, 1) := by decide +kernel
theorem dX4_readStones_1 : decode cX4_readStones 1 = .ok (.istore_n 2, 1) := by decide +kernel
theorem dX4_readStones_2 : decode cX4_readStones 2 = .ok (.iload_n 2, 1) := by decide +kernel
theorem dX4_readStones_3 : decode cX4_readStones 3 = .ok (.aload_n 1, 1) := by decide +kernel
theorem dX4_readStones_4 : decode cX4_readStones 4 = .ok (.arraylength, 1) := by decide +kernel
theorem dX4_readStones_5 : decode cX4_readStones 5 = .ok (.if_icmp .gt 65, 3) := by decide +kernel
theorem dX4_readStones_8 : decode cX4_readStones 8 = .ok (.aload_n 0, 1) := by decide +kernel
theorem dX4_readStones_9 : decode cX4_readStones 9 = .ok (.iconst 0, 1) := by decide +kernel
theorem dX4_readStones_10 : decode cX4_readStones 10 = .ok (.aload_n 1, 1) := by decide +kernel
theorem dX4_readStones_11 : decode cX4_readStones 11 = .ok (.arraylength, 1) := by decide +kernel
theorem dX4_readStones_12 : decode cX4_readStones 12 = .ok (.iconst 1, 1) := by decide +kernel
theorem dX4_readStones_13 : decode cX4_readStones 13 = .ok (.isub, 1) := by decide +kernel
theorem dX4_readStones_14 : decode cX4_readStones 14 = .ok (.invokevirtual 55, 3) := by decide +kernel
theorem dX4_readStones_17 : decode cX4_readStones 17 = .ok (.ifCond .ne 5, 3) := by decide +kernel
theorem dX4_readStones_20 : decode cX4_readStones 20 = .ok (.iconst 0, 1) := by decide +kernel
theorem dX4_readStones_21 : decode cX4_readStones 21 = .ok (.ireturn, 1) := by decide +kernel
theorem dX4_readStones_22 : decode cX4_readStones 22 = .ok (.aload_n 1, 1) := by decide +kernel
theorem dX4_readStones_23 : decode cX4_readStones 23 = .ok (.aload_n 0, 1) := by decide +kernel
theorem dX4_readStones_24 : decode cX4_readStones 24 = .ok (.getfield 63, 3) := by decide +kernel
theorem dX4_readStones_27 : decode cX4_readStones 27 = .ok (.invokestatic 92, 3) := by decide +kernel
theorem dX4_readStones_30 : decode cX4_readStones 30 = .ok (.ifCond .eq 9, 3) := by decide +kernel
theorem dX4_readStones_33 : decode cX4_readStones 33 = .ok (.aload_n 0, 1) := by decide +kernel
theorem dX4_readStones_34 : decode cX4_readStones 34 = .ok (.iconst 3, 1) := by decide +kernel
theorem dX4_readStones_35 : decode cX4_readStones 35 = .ok (.invokevirtual 38, 3) := by decide +kernel
theorem dX4_readStones_38 : decode cX4_readStones 38 = .ok (.ireturn, 1) := by decide +kernel
theorem dX4_readStones_39 : decode cX4_readStones 39 = .ok (.aload_n 1, 1) := by decide +kernel
theorem dX4_readStones_40 : decode cX4_readStones 40 = .ok (.aload_n 0, 1) := by decide +kernel
theorem dX4_readStones_41 : decode cX4_readStones 41 = .ok (.getfield 63, 3) := by decide +kernel
theorem dX4_readStones_44 : decode cX4_readStones 44 = .ok (.iconst 1, 1) := by decide +kernel
theorem dX4_readStones_45 : decode cX4_readStones 45 = .ok (.invokestatic 66, 3) := by decide +kernel
theorem dX4_readStones_48 : decode cX4_readStones 48 = .ok (.aload_n 0, 1) := by decide +kernel
theorem dX4_readStones_49 : decode cX4_readStones 49 = .ok (.invokevirtual 28, 3) := by decide +kernel
theorem dX4_readStones_52 : decode cX4_readStones 52 = .ok (.aload_n 0, 1) := by decide +kernel
theorem dX4_readStones_53 : decode cX4_readStones 53 = .ok (.bipush 44, 2) := by decide +kernel
theorem dX4_readStones_55 : decode cX4_readStones 55 = .ok (.invokevirtual 110, 3) := by decide +kernel
theorem dX4_readStones_58 : decode cX4_readStones 58 = .ok (.ifCond .ne 6, 3) := by decide +kernel
theorem dX4_readStones_61 : decode cX4_readStones 61 = .ok (.goto 9, 3) := by decide +kernel
theorem dX4_readStones_64 : decode cX4_readStones 64 = .ok (.iinc 2 1, 3) := by decide +kernel
theorem dX4_readStones_67 : decode cX4_readStones 67 = .ok (.goto (-65), 3) := by decide +kernel
theorem dX4_readStones_70 : decode cX4_readStones 70 = .ok (.aload_n 0, 1) := by decide +kernel
theorem dX4_readStones_71 : decode cX4_readStones 71 = .ok (.bipush 59, 2) := by decide +kernel
theorem dX4_readStones_73 : decode cX4_readStones 73 = .ok (.invokevirtual 110, 3) := by decide +kernel
theorem dX4_readStones_76 : decode cX4_readStones 76 = .ok (.ifCond .ne 11, 3) := by decide +kernel
theorem dX4_readStones_79 : decode cX4_readStones 79 = .ok (.aload_n 0, 1) := by decide +kernel
theorem dX4_readStones_80 : decode cX4_readStones 80 = .ok (.iconst 1, 1) := by decide +kernel
theorem dX4_readStones_81 : decode cX4_readStones 81 = .ok (.invokevirtual 38, 3) := by decide +kernel
theorem dX4_readStones_84 : decode cX4_readStones 84 = .ok (.ifCond .eq 7, 3) := by decide +kernel
theorem dX4_readStones_87 : decode cX4_readStones 87 = .ok (.iconst 1, 1) := by decide +kernel
theorem dX4_readStones_88 : decode cX4_readStones 88 = .ok (.goto 4, 3) := by decide +kernel
theorem dX4_readStones_91 : decode cX4_readStones 91 = .ok (.iconst 0, 1) := by decide +kernel
theorem dX4_readStones_92 : decode cX4_readStones 92 = .ok (.ireturn, 1) := by decide +kernel
theorem dX4_begin_0 : decode cX4_begin 0 = .ok (.aload_n 0, 1) := by decide +kernel
theorem dX4_begin_1 : decode cX4_begin 1 = .ok (.iconst 0, 1) := by decide +kernel
theorem dX4_begin_2 : decode cX4_begin 2 = .ok (.putfield 113, 3) := by decide +kernel
theorem dX4_begin_5 : decode cX4_begin 5 = .ok (.aload_n 0, 1) := by decide +kernel
theorem dX4_begin_6 : decode cX4_begin 6 = .ok (.iconst 0, 1) := by decide +kernel
theorem dX4_begin_7 : decode cX4_begin 7 = .ok (.putfield 15, 3) := by decide +kernel
theorem dX4_begin_10 : decode cX4_begin 10 = .ok (.aload_n 0, 1) := by decide +kernel
theorem dX4_begin_11 : decode cX4_begin 11 = .ok (.iconst (-1), 1) := by decide +kernel
theorem dX4_begin_12 : decode cX4_begin 12 = .ok (.putfield 19, 3) := by decide +kernel
theorem dX4_begin_15 : decode cX4_begin 15 = .ok (.return_, 1) := by decide +kernel
theorem dX4_fail_0 : decode cX4_fail 0 = .ok (.aload_n 0, 1) := by decide +kernel
theorem dX4_fail_1 : decode cX4_fail 1 = .ok (.iload_n 1, 1) := by decide +kernel
theorem dX4_fail_2 : decode cX4_fail 2 = .ok (.putfield 15, 3) := by decide +kernel
theorem dX4_fail_5 : decode cX4_fail 5 = .ok (.aload_n 0, 1) := by decide +kernel
theorem dX4_fail_6 : decode cX4_fail 6 = .ok (.aload_n 0, 1) := by decide +kernel
theorem dX4_fail_7 : decode cX4_fail 7 = .ok (.getfield 116, 3) := by decide +kernel
theorem dX4_fail_10 : decode cX4_fail 10 = .ok (.putfield 19, 3) := by decide +kernel
theorem dX4_fail_13 : decode cX4_fail 13 = .ok (.iconst 0, 1) := by decide +kernel
theorem dX4_fail_14 : decode cX4_fail 14 = .ok (.ireturn, 1) := by decide +kernel
theorem dX4_takeNumber_0 : decode cX4_takeNumber 0 = .ok (.aload_n 0, 1) := by decide +kernel
theorem dX4_takeNumber_1 : decode cX4_takeNumber 1 = .ok (.invokevirtual 28, 3) := by decide +kernel
theorem dX4_takeNumber_4 : decode cX4_takeNumber 4 = .ok (.aload_n 0, 1) := by decide +kernel
theorem dX4_takeNumber_5 : decode cX4_takeNumber 5 = .ok (.getfield 31, 3) := by decide +kernel
theorem dX4_takeNumber_8 : decode cX4_takeNumber 8 = .ok (.iconst 2, 1) := by decide +kernel
theorem dX4_takeNumber_9 : decode cX4_takeNumber 9 = .ok (.if_icmp .eq 9, 3) := by decide +kernel
theorem dX4_takeNumber_12 : decode cX4_takeNumber 12 = .ok (.aload_n 0, 1) := by decide +kernel
theorem dX4_takeNumber_13 : decode cX4_takeNumber 13 = .ok (.iconst 1, 1) := by decide +kernel
theorem dX4_takeNumber_14 : decode cX4_takeNumber 14 = .ok (.invokevirtual 38, 3) := by decide +kernel
theorem dX4_takeNumber_17 : decode cX4_takeNumber 17 = .ok (.ireturn, 1) := by decide +kernel
theorem dX4_takeNumber_18 : decode cX4_takeNumber 18 = .ok (.aload_n 0, 1) := by decide +kernel
theorem dX4_takeNumber_19 : decode cX4_takeNumber 19 = .ok (.getfield 113, 3) := by decide +kernel
theorem dX4_takeNumber_22 : decode cX4_takeNumber 22 = .ok (.aload_n 0, 1) := by decide +kernel
theorem dX4_takeNumber_23 : decode cX4_takeNumber 23 = .ok (.getfield 116, 3) := by decide +kernel
theorem dX4_takeNumber_26 : decode cX4_takeNumber 26 = .ok (.isub, 1) := by decide +kernel
theorem dX4_takeNumber_27 : decode cX4_takeNumber 27 = .ok (.iconst 3, 1) := by decide +kernel
theorem dX4_takeNumber_28 : decode cX4_takeNumber 28 = .ok (.if_icmp .gt 15, 3) := by decide +kernel
theorem dX4_takeNumber_31 : decode cX4_takeNumber 31 = .ok (.aload_n 0, 1) := by decide +kernel
theorem dX4_takeNumber_32 : decode cX4_takeNumber 32 = .ok (.getfield 63, 3) := by decide +kernel
theorem dX4_takeNumber_35 : decode cX4_takeNumber 35 = .ok (.iload_n 1, 1) := by decide +kernel
theorem dX4_takeNumber_36 : decode cX4_takeNumber 36 = .ok (.iload_n 2, 1) := by decide +kernel
theorem dX4_takeNumber_37 : decode cX4_takeNumber 37 = .ok (.invokestatic 119, 3) := by decide +kernel
theorem dX4_takeNumber_40 : decode cX4_takeNumber 40 = .ok (.ifCond .ne 11, 3) := by decide +kernel
theorem dX4_takeNumber_43 : decode cX4_takeNumber 43 = .ok (.aload_n 0, 1) := by decide +kernel
theorem dX4_takeNumber_44 : decode cX4_takeNumber 44 = .ok (.iconst 2, 1) := by decide +kernel
theorem dX4_takeNumber_45 : decode cX4_takeNumber 45 = .ok (.invokevirtual 38, 3) := by decide +kernel
theorem dX4_takeNumber_48 : decode cX4_takeNumber 48 = .ok (.ifCond .eq 7, 3) := by decide +kernel
theorem dX4_takeNumber_51 : decode cX4_takeNumber 51 = .ok (.iconst 1, 1) := by decide +kernel
theorem dX4_takeNumber_52 : decode cX4_takeNumber 52 = .ok (.goto 4, 3) := by decide +kernel
theorem dX4_takeNumber_55 : decode cX4_takeNumber 55 = .ok (.iconst 0, 1) := by decide +kernel
theorem dX4_takeNumber_56 : decode cX4_takeNumber 56 = .ok (.ireturn, 1) := by decide +kernel
theorem dX4_isSign_0 : decode cX4_isSign 0 = .ok (.aload_n 0, 1) := by decide +kernel
theorem dX4_isSign_1 : decode cX4_isSign 1 = .ok (.getfield 31, 3) := by decide +kernel
theorem dX4_isSign_4 : decode cX4_isSign 4 = .ok (.iconst 3, 1) := by decide +kernel
theorem dX4_isSign_5 : decode cX4_isSign 5 = .ok (.if_icmp .ne 15, 3) := by decide +kernel
theorem dX4_isSign_8 : decode cX4_isSign 8 = .ok (.aload_n 0, 1) := by decide +kernel
theorem dX4_isSign_9 : decode cX4_isSign 9 = .ok (.getfield 63, 3) := by decide +kernel
theorem dX4_isSign_12 : decode cX4_isSign 12 = .ok (.iload_n 1, 1) := by decide +kernel
theorem dX4_isSign_13 : decode cX4_isSign 13 = .ok (.if_icmp .ne 7, 3) := by decide +kernel
theorem dX4_isSign_16 : decode cX4_isSign 16 = .ok (.iconst 1, 1) := by decide +kernel
theorem dX4_isSign_17 : decode cX4_isSign 17 = .ok (.goto 4, 3) := by decide +kernel
theorem dX4_isSign_20 : decode cX4_isSign 20 = .ok (.iconst 0, 1) := by decide +kernel
theorem dX4_isSign_21 : decode cX4_isSign 21 = .ok (.ireturn, 1) := by decide +kernel
theorem dX4_take_0 : decode cX4_take 0 = .ok (.aload_n 0, 1) := by decide +kernel
theorem dX4_take_1 : decode cX4_take 1 = .ok (.getfield 9, 3) := by decide +kernel
theorem dX4_take_4 : decode cX4_take 4 = .ok (.invokevirtual 123, 3) := by decide +kernel
theorem dX4_take_7 : decode cX4_take 7 = .ok (.istore_n 1, 1) := by decide +kernel
theorem dX4_take_8 : decode cX4_take 8 = .ok (.aload_n 0, 1) := by decide +kernel
theorem dX4_take_9 : decode cX4_take 9 = .ok (.getfield 113, 3) := by decide +kernel
theorem dX4_take_12 : decode cX4_take 12 = .ok (.iload_n 1, 1) := by decide +kernel
theorem dX4_take_13 : decode cX4_take 13 = .ok (.if_icmp .ge 32, 3) := by decide +kernel
theorem dX4_take_16 : decode cX4_take 16 = .ok (.aload_n 0, 1) := by decide +kernel
theorem dX4_take_17 : decode cX4_take 17 = .ok (.getfield 9, 3) := by decide +kernel
theorem dX4_take_20 : decode cX4_take 20 = .ok (.aload_n 0, 1) := by decide +kernel
theorem dX4_take_21 : decode cX4_take 21 = .ok (.getfield 113, 3) := by decide +kernel
theorem dX4_take_24 : decode cX4_take 24 = .ok (.invokevirtual 128, 3) := by decide +kernel
theorem dX4_take_27 : decode cX4_take 27 = .ok (.bipush 32, 2) := by decide +kernel
theorem dX4_take_29 : decode cX4_take 29 = .ok (.if_icmp .ne 16, 3) := by decide +kernel
theorem dX4_take_32 : decode cX4_take 32 = .ok (.aload_n 0, 1) := by decide +kernel
theorem dX4_take_33 : decode cX4_take 33 = .ok (.dup, 1) := by decide +kernel
theorem dX4_take_34 : decode cX4_take 34 = .ok (.getfield 113, 3) := by decide +kernel
theorem dX4_take_37 : decode cX4_take 37 = .ok (.iconst 1, 1) := by decide +kernel
theorem dX4_take_38 : decode cX4_take 38 = .ok (.iadd, 1) := by decide +kernel
theorem dX4_take_39 : decode cX4_take 39 = .ok (.putfield 113, 3) := by decide +kernel
theorem dX4_take_42 : decode cX4_take 42 = .ok (.goto (-34), 3) := by decide +kernel
theorem dX4_take_45 : decode cX4_take 45 = .ok (.aload_n 0, 1) := by decide +kernel
theorem dX4_take_46 : decode cX4_take 46 = .ok (.aload_n 0, 1) := by decide +kernel
theorem dX4_take_47 : decode cX4_take 47 = .ok (.getfield 113, 3) := by decide +kernel
theorem dX4_take_50 : decode cX4_take 50 = .ok (.putfield 116, 3) := by decide +kernel
theorem dX4_take_53 : decode cX4_take 53 = .ok (.aload_n 0, 1) := by decide +kernel
theorem dX4_take_54 : decode cX4_take 54 = .ok (.getfield 9, 3) := by decide +kernel
theorem dX4_take_57 : decode cX4_take 57 = .ok (.aload_n 0, 1) := by decide +kernel
theorem dX4_take_58 : decode cX4_take 58 = .ok (.getfield 113, 3) := by decide +kernel
theorem dX4_take_61 : decode cX4_take 61 = .ok (.invokevirtual 128, 3) := by decide +kernel
theorem dX4_take_64 : decode cX4_take 64 = .ok (.istore_n 2, 1) := by decide +kernel
theorem dX4_take_65 : decode cX4_take 65 = .ok (.iload_n 2, 1) := by decide +kernel
theorem dX4_take_66 : decode cX4_take 66 = .ok (.iconst (-1), 1) := by decide +kernel
theorem dX4_take_67 : decode cX4_take 67 = .ok (.if_icmp .ne 11, 3) := by decide +kernel
theorem dX4_take_70 : decode cX4_take 70 = .ok (.aload_n 0, 1) := by decide +kernel
theorem dX4_take_71 : decode cX4_take 71 = .ok (.iconst 0, 1) := by decide +kernel
theorem dX4_take_72 : decode cX4_take 72 = .ok (.putfield 31, 3) := by decide +kernel
theorem dX4_take_75 : decode cX4_take 75 = .ok (.goto 174, 3) := by decide +kernel
theorem dX4_take_78 : decode cX4_take 78 = .ok (.iload_n 2, 1) := by decide +kernel
theorem dX4_take_79 : decode cX4_take 79 = .ok (.invokestatic 131, 3) := by decide +kernel
theorem dX4_take_82 : decode cX4_take 82 = .ok (.ifCond .eq 46, 3) := by decide +kernel
theorem dX4_take_85 : decode cX4_take 85 = .ok (.aload_n 0, 1) := by decide +kernel
theorem dX4_take_86 : decode cX4_take 86 = .ok (.iconst 1, 1) := by decide +kernel
theorem dX4_take_87 : decode cX4_take 87 = .ok (.putfield 31, 3) := by decide +kernel
theorem dX4_take_90 : decode cX4_take 90 = .ok (.aload_n 0, 1) := by decide +kernel
theorem dX4_take_91 : decode cX4_take 91 = .ok (.getfield 113, 3) := by decide +kernel
theorem dX4_take_94 : decode cX4_take 94 = .ok (.iload_n 1, 1) := by decide +kernel
theorem dX4_take_95 : decode cX4_take 95 = .ok (.if_icmp .ge 154, 3) := by decide +kernel
theorem dX4_take_98 : decode cX4_take 98 = .ok (.aload_n 0, 1) := by decide +kernel
theorem dX4_take_99 : decode cX4_take 99 = .ok (.getfield 9, 3) := by decide +kernel
theorem dX4_take_102 : decode cX4_take 102 = .ok (.aload_n 0, 1) := by decide +kernel
theorem dX4_take_103 : decode cX4_take 103 = .ok (.getfield 113, 3) := by decide +kernel
theorem dX4_take_106 : decode cX4_take 106 = .ok (.invokevirtual 128, 3) := by decide +kernel
theorem dX4_take_109 : decode cX4_take 109 = .ok (.invokestatic 131, 3) := by decide +kernel
theorem dX4_take_112 : decode cX4_take 112 = .ok (.ifCond .eq 137, 3) := by decide +kernel
theorem dX4_take_115 : decode cX4_take 115 = .ok (.aload_n 0, 1) := by decide +kernel
theorem dX4_take_116 : decode cX4_take 116 = .ok (.dup, 1) := by decide +kernel
theorem dX4_take_117 : decode cX4_take 117 = .ok (.getfield 113, 3) := by decide +kernel
theorem dX4_take_120 : decode cX4_take 120 = .ok (.iconst 1, 1) := by decide +kernel
theorem dX4_take_121 : decode cX4_take 121 = .ok (.iadd, 1) := by decide +kernel
theorem dX4_take_122 : decode cX4_take 122 = .ok (.putfield 113, 3) := by decide +kernel
theorem dX4_take_125 : decode cX4_take 125 = .ok (.goto (-35), 3) := by decide +kernel
theorem dX4_take_128 : decode cX4_take 128 = .ok (.iload_n 2, 1) := by decide +kernel
theorem dX4_take_129 : decode cX4_take 129 = .ok (.invokestatic 134, 3) := by decide +kernel
theorem dX4_take_132 : decode cX4_take 132 = .ok (.ifCond .eq 97, 3) := by decide +kernel
theorem dX4_take_135 : decode cX4_take 135 = .ok (.aload_n 0, 1) := by decide +kernel
theorem dX4_take_136 : decode cX4_take 136 = .ok (.iconst 2, 1) := by decide +kernel
theorem dX4_take_137 : decode cX4_take 137 = .ok (.putfield 31, 3) := by decide +kernel
theorem dX4_take_140 : decode cX4_take 140 = .ok (.aload_n 0, 1) := by decide +kernel
theorem dX4_take_141 : decode cX4_take 141 = .ok (.iconst 0, 1) := by decide +kernel
theorem dX4_take_142 : decode cX4_take 142 = .ok (.putfield 63, 3) := by decide +kernel
theorem dX4_take_145 : decode cX4_take 145 = .ok (.aload_n 0, 1) := by decide +kernel
theorem dX4_take_146 : decode cX4_take 146 = .ok (.getfield 113, 3) := by decide +kernel
theorem dX4_take_149 : decode cX4_take 149 = .ok (.iload_n 1, 1) := by decide +kernel
theorem dX4_take_150 : decode cX4_take 150 = .ok (.if_icmp .ge 99, 3) := by decide +kernel
theorem dX4_take_153 : decode cX4_take 153 = .ok (.aload_n 0, 1) := by decide +kernel
theorem dX4_take_154 : decode cX4_take 154 = .ok (.getfield 9, 3) := by decide +kernel
theorem dX4_take_157 : decode cX4_take 157 = .ok (.aload_n 0, 1) := by decide +kernel
theorem dX4_take_158 : decode cX4_take 158 = .ok (.getfield 113, 3) := by decide +kernel
theorem dX4_take_161 : decode cX4_take 161 = .ok (.invokevirtual 128, 3) := by decide +kernel
theorem dX4_take_164 : decode cX4_take 164 = .ok (.invokestatic 134, 3) := by decide +kernel
theorem dX4_take_167 : decode cX4_take 167 = .ok (.ifCond .eq 82, 3) := by decide +kernel
theorem dX4_take_170 : decode cX4_take 170 = .ok (.aload_n 0, 1) := by decide +kernel
theorem dX4_take_171 : decode cX4_take 171 = .ok (.aload_n 0, 1) := by decide +kernel
theorem dX4_take_172 : decode cX4_take 172 = .ok (.getfield 113, 3) := by decide +kernel
theorem dX4_take_175 : decode cX4_take 175 = .ok (.aload_n 0, 1) := by decide +kernel
theorem dX4_take_176 : decode cX4_take 176 = .ok (.getfield 116, 3) := by decide +kernel
theorem dX4_take_179 : decode cX4_take 179 = .ok (.isub, 1) := by decide +kernel
theorem dX4_take_180 : decode cX4_take 180 = .ok (.iconst 3, 1) := by decide +kernel
theorem dX4_take_181 : decode cX4_take 181 = .ok (.if_icmp .ge 28, 3) := by decide +kernel
theorem dX4_take_184 : decode cX4_take 184 = .ok (.bipush 10, 2) := by decide +kernel
theorem dX4_take_186 : decode cX4_take 186 = .ok (.aload_n 0, 1) := by decide +kernel
theorem dX4_take_187 : decode cX4_take 187 = .ok (.getfield 63, 3) := by decide +kernel
theorem dX4_take_190 : decode cX4_take 190 = .ok (.imul, 1) := by decide +kernel
theorem dX4_take_191 : decode cX4_take 191 = .ok (.aload_n 0, 1) := by decide +kernel
theorem dX4_take_192 : decode cX4_take 192 = .ok (.getfield 9, 3) := by decide +kernel
theorem dX4_take_195 : decode cX4_take 195 = .ok (.aload_n 0, 1) := by decide +kernel
theorem dX4_take_196 : decode cX4_take 196 = .ok (.getfield 113, 3) := by decide +kernel
theorem dX4_take_199 : decode cX4_take 199 = .ok (.invokevirtual 128, 3) := by decide +kernel
theorem dX4_take_202 : decode cX4_take 202 = .ok (.iadd, 1) := by decide +kernel
theorem dX4_take_203 : decode cX4_take 203 = .ok (.bipush 48, 2) := by decide +kernel
theorem dX4_take_205 : decode cX4_take 205 = .ok (.isub, 1) := by decide +kernel
theorem dX4_take_206 : decode cX4_take 206 = .ok (.goto 7, 3) := by decide +kernel
theorem dX4_take_209 : decode cX4_take 209 = .ok (.aload_n 0, 1) := by decide +kernel
theorem dX4_take_210 : decode cX4_take 210 = .ok (.getfield 63, 3) := by decide +kernel
theorem dX4_take_213 : decode cX4_take 213 = .ok (.putfield 63, 3) := by decide +kernel
theorem dX4_take_216 : decode cX4_take 216 = .ok (.aload_n 0, 1) := by decide +kernel
theorem dX4_take_217 : decode cX4_take 217 = .ok (.dup, 1) := by decide +kernel
theorem dX4_take_218 : decode cX4_take 218 = .ok (.getfield 113, 3) := by decide +kernel
theorem dX4_take_221 : decode cX4_take 221 = .ok (.iconst 1, 1) := by decide +kernel
theorem dX4_take_222 : decode cX4_take 222 = .ok (.iadd, 1) := by decide +kernel
theorem dX4_take_223 : decode cX4_take 223 = .ok (.putfield 113, 3) := by decide +kernel
theorem dX4_take_226 : decode cX4_take 226 = .ok (.goto (-81), 3) := by decide +kernel
theorem dX4_take_229 : decode cX4_take 229 = .ok (.aload_n 0, 1) := by decide +kernel
theorem dX4_take_230 : decode cX4_take 230 = .ok (.iconst 3, 1) := by decide +kernel
theorem dX4_take_231 : decode cX4_take 231 = .ok (.putfield 31, 3) := by decide +kernel
theorem dX4_take_234 : decode cX4_take 234 = .ok (.aload_n 0, 1) := by decide +kernel
theorem dX4_take_235 : decode cX4_take 235 = .ok (.iload_n 2, 1) := by decide +kernel
theorem dX4_take_236 : decode cX4_take 236 = .ok (.putfield 63, 3) := by decide +kernel
theorem dX4_take_239 : decode cX4_take 239 = .ok (.aload_n 0, 1) := by decide +kernel
theorem dX4_take_240 : decode cX4_take 240 = .ok (.dup, 1) := by decide +kernel
theorem dX4_take_241 : decode cX4_take 241 = .ok (.getfield 113, 3) := by decide +kernel
theorem dX4_take_244 : decode cX4_take 244 = .ok (.iconst 1, 1) := by decide +kernel
theorem dX4_take_245 : decode cX4_take 245 = .ok (.iadd, 1) := by decide +kernel
theorem dX4_take_246 : decode cX4_take 246 = .ok (.putfield 113, 3) := by decide +kernel
theorem dX4_take_249 : decode cX4_take 249 = .ok (.return_, 1) := by decide +kernel
theorem dX4_clauseInHand_0 : decode cX4_clauseInHand 0 = .ok (.aload_n 0, 1) := by decide +kernel
theorem dX4_clauseInHand_1 : decode cX4_clauseInHand 1 = .ok (.getfield 31, 3) := by decide +kernel
theorem dX4_clauseInHand_4 : decode cX4_clauseInHand 4 = .ok (.iconst 1, 1) := by decide +kernel
theorem dX4_clauseInHand_5 : decode cX4_clauseInHand 5 = .ok (.if_icmp .eq 5, 3) := by decide +kernel
theorem dX4_clauseInHand_8 : decode cX4_clauseInHand 8 = .ok (.iconst (-1), 1) := by decide +kernel
theorem dX4_clauseInHand_9 : decode cX4_clauseInHand 9 = .ok (.ireturn, 1) := by decide +kernel
theorem dX4_clauseInHand_10 : decode cX4_clauseInHand 10 = .ok (.iconst 0, 1) := by decide +kernel
theorem dX4_clauseInHand_11 : decode cX4_clauseInHand 11 = .ok (.istore_n 1, 1) := by decide +kernel
theorem dX4_clauseInHand_12 : decode cX4_clauseInHand 12 = .ok (.iload_n 1, 1) := by decide +kernel
theorem dX4_clauseInHand_13 : decode cX4_clauseInHand 13 = .ok (.bipush 9, 2) := by decide +kernel
theorem dX4_clauseInHand_15 : decode cX4_clauseInHand 15 = .ok (.if_icmp .ge 22, 3) := by decide +kernel
theorem dX4_clauseInHand_18 : decode cX4_clauseInHand 18 = .ok (.aload_n 0, 1) := by decide +kernel
theorem dX4_clauseInHand_19 : decode cX4_clauseInHand 19 = .ok (.iload_n 1, 1) := by decide +kernel
theorem dX4_clauseInHand_20 : decode cX4_clauseInHand 20 = .ok (.invokestatic 137, 3) := by decide +kernel
theorem dX4_clauseInHand_23 : decode cX4_clauseInHand 23 = .ok (.invokevirtual 141, 3) := by decide +kernel
theorem dX4_clauseInHand_26 : decode cX4_clauseInHand 26 = .ok (.ifCond .eq 5, 3) := by decide +kernel
theorem dX4_clauseInHand_29 : decode cX4_clauseInHand 29 = .ok (.iload_n 1, 1) := by decide +kernel
theorem dX4_clauseInHand_30 : decode cX4_clauseInHand 30 = .ok (.ireturn, 1) := by decide +kernel
theorem dX4_clauseInHand_31 : decode cX4_clauseInHand 31 = .ok (.iinc 1 1, 3) := by decide +kernel
theorem dX4_clauseInHand_34 : decode cX4_clauseInHand 34 = .ok (.goto (-22), 3) := by decide +kernel
theorem dX4_clauseInHand_37 : decode cX4_clauseInHand 37 = .ok (.iconst (-1), 1) := by decide +kernel
theorem dX4_clauseInHand_38 : decode cX4_clauseInHand 38 = .ok (.ireturn, 1) := by decide +kernel
theorem dX4_nameOf_0 : decode cX4_nameOf 0 = .ok (.iload_n 0, 1) := by decide +kernel
theorem dX4_nameOf_1 : decode cX4_nameOf 1 = .ok (.tableswitch 71 0 7 #[47, 50, 53, 56, 59, 62, 65, 68], 47) := by decide +kernel
theorem dX4_nameOf_48 : decode cX4_nameOf 48 = .ok (.ldc 145, 2) := by decide +kernel
theorem dX4_nameOf_50 : decode cX4_nameOf 50 = .ok (.areturn, 1) := by decide +kernel
theorem dX4_nameOf_51 : decode cX4_nameOf 51 = .ok (.ldc 147, 2) := by decide +kernel
theorem dX4_nameOf_53 : decode cX4_nameOf 53 = .ok (.areturn, 1) := by decide +kernel
theorem dX4_nameOf_54 : decode cX4_nameOf 54 = .ok (.ldc 149, 2) := by decide +kernel
theorem dX4_nameOf_56 : decode cX4_nameOf 56 = .ok (.areturn, 1) := by decide +kernel
theorem dX4_nameOf_57 : decode cX4_nameOf 57 = .ok (.ldc 150, 2) := by decide +kernel
theorem dX4_nameOf_59 : decode cX4_nameOf 59 = .ok (.areturn, 1) := by decide +kernel
theorem dX4_nameOf_60 : decode cX4_nameOf 60 = .ok (.ldc 152, 2) := by decide +kernel
theorem dX4_nameOf_62 : decode cX4_nameOf 62 = .ok (.areturn, 1) := by decide +kernel
theorem dX4_nameOf_63 : decode cX4_nameOf 63 = .ok (.ldc 154, 2) := by decide +kernel
theorem dX4_nameOf_65 : decode cX4_nameOf 65 = .ok (.areturn, 1) := by decide +kernel
theorem dX4_nameOf_66 : decode cX4_nameOf 66 = .ok (.ldc 156, 2) := by decide +kernel
theorem dX4_nameOf_68 : decode cX4_nameOf 68 = .ok (.areturn, 1) := by decide +kernel
theorem dX4_nameOf_69 : decode cX4_nameOf 69 = .ok (.ldc 158, 2) := by decide +kernel
theorem dX4_nameOf_71 : decode cX4_nameOf 71 = .ok (.areturn, 1) := by decide +kernel
theorem dX4_nameOf_72 : decode cX4_nameOf 72 = .ok (.ldc 159, 2) := by decide +kernel
theorem dX4_nameOf_74 : decode cX4_nameOf 74 = .ok (.areturn, 1) := by decide +kernel
theorem dX4_isWord_0 : decode cX4_isWord 0 = .ok (.aload_n 0, 1) := by decide +kernel
theorem dX4_isWord_1 : decode cX4_isWord 1 = .ok (.getfield 113, 3) := by decide +kernel
theorem dX4_isWord_4 : decode cX4_isWord 4 = .ok (.aload_n 0, 1) := by decide +kernel
theorem dX4_isWord_5 : decode cX4_isWord 5 = .ok (.getfield 116, 3) := by decide +kernel
theorem dX4_isWord_8 : decode cX4_isWord 8 = .ok (.isub, 1) := by decide +kernel
theorem dX4_isWord_9 : decode cX4_isWord 9 = .ok (.aload_n 1, 1) := by decide +kernel
theorem dX4_isWord_10 : decode cX4_isWord 10 = .ok (.invokevirtual 161, 3) := by decide +kernel
theorem dX4_isWord_13 : decode cX4_isWord 13 = .ok (.if_icmp .eq 5, 3) := by decide +kernel
theorem dX4_isWord_16 : decode cX4_isWord 16 = .ok (.iconst 0, 1) := by decide +kernel
theorem dX4_isWord_17 : decode cX4_isWord 17 = .ok (.ireturn, 1) := by decide +kernel
theorem dX4_isWord_18 : decode cX4_isWord 18 = .ok (.iconst 0, 1) := by decide +kernel
theorem dX4_isWord_19 : decode cX4_isWord 19 = .ok (.istore_n 2, 1) := by decide +kernel
theorem dX4_isWord_20 : decode cX4_isWord 20 = .ok (.iload_n 2, 1) := by decide +kernel
theorem dX4_isWord_21 : decode cX4_isWord 21 = .ok (.aload_n 1, 1) := by decide +kernel
theorem dX4_isWord_22 : decode cX4_isWord 22 = .ok (.invokevirtual 161, 3) := by decide +kernel
theorem dX4_isWord_25 : decode cX4_isWord 25 = .ok (.if_icmp .ge 32, 3) := by decide +kernel
theorem dX4_isWord_28 : decode cX4_isWord 28 = .ok (.aload_n 0, 1) := by decide +kernel
theorem dX4_isWord_29 : decode cX4_isWord 29 = .ok (.getfield 9, 3) := by decide +kernel
theorem dX4_isWord_32 : decode cX4_isWord 32 = .ok (.aload_n 0, 1) := by decide +kernel
theorem dX4_isWord_33 : decode cX4_isWord 33 = .ok (.getfield 116, 3) := by decide +kernel
theorem dX4_isWord_36 : decode cX4_isWord 36 = .ok (.iload_n 2, 1) := by decide +kernel
theorem dX4_isWord_37 : decode cX4_isWord 37 = .ok (.iadd, 1) := by decide +kernel
theorem dX4_isWord_38 : decode cX4_isWord 38 = .ok (.invokevirtual 128, 3) := by decide +kernel
theorem dX4_isWord_41 : decode cX4_isWord 41 = .ok (.aload_n 1, 1) := by decide +kernel
theorem dX4_isWord_42 : decode cX4_isWord 42 = .ok (.iload_n 2, 1) := by decide +kernel
theorem dX4_isWord_43 : decode cX4_isWord 43 = .ok (.invokevirtual 164, 3) := by decide +kernel
theorem dX4_isWord_46 : decode cX4_isWord 46 = .ok (.if_icmp .eq 5, 3) := by decide +kernel
theorem dX4_isWord_49 : decode cX4_isWord 49 = .ok (.iconst 0, 1) := by decide +kernel
theorem dX4_isWord_50 : decode cX4_isWord 50 = .ok (.ireturn, 1) := by decide +kernel
theorem dX4_isWord_51 : decode cX4_isWord 51 = .ok (.iinc 2 1, 3) := by decide +kernel
theorem dX4_isWord_54 : decode cX4_isWord 54 = .ok (.goto (-34), 3) := by decide +kernel
theorem dX4_isWord_57 : decode cX4_isWord 57 = .ok (.iconst 1, 1) := by decide +kernel
theorem dX4_isWord_58 : decode cX4_isWord 58 = .ok (.ireturn, 1) := by decide +kernel
theorem dX4_isLetter_0 : decode cX4_isLetter 0 = .ok (.iload_n 0, 1) := by decide +kernel
theorem dX4_isLetter_1 : decode cX4_isLetter 1 = .ok (.bipush 97, 2) := by decide +kernel
theorem dX4_isLetter_3 : decode cX4_isLetter 3 = .ok (.if_icmp .lt 13, 3) := by decide +kernel
theorem dX4_isLetter_6 : decode cX4_isLetter 6 = .ok (.iload_n 0, 1) := by decide +kernel
theorem dX4_isLetter_7 : decode cX4_isLetter 7 = .ok (.bipush 122, 2) := by decide +kernel
theorem dX4_isLetter_9 : decode cX4_isLetter 9 = .ok (.if_icmp .gt 7, 3) := by decide +kernel
theorem dX4_isLetter_12 : decode cX4_isLetter 12 = .ok (.iconst 1, 1) := by decide +kernel
theorem dX4_isLetter_13 : decode cX4_isLetter 13 = .ok (.goto 4, 3) := by decide +kernel
theorem dX4_isLetter_16 : decode cX4_isLetter 16 = .ok (.iconst 0, 1) := by decide +kernel
theorem dX4_isLetter_17 : decode cX4_isLetter 17 = .ok (.ireturn, 1) := by decide +kernel
theorem dX4_isFigure_0 : decode cX4_isFigure 0 = .ok (.iload_n 0, 1) := by decide +kernel
theorem dX4_isFigure_1 : decode cX4_isFigure 1 = .ok (.bipush 48, 2) := by decide +kernel
theorem dX4_isFigure_3 : decode cX4_isFigure 3 = .ok (.if_icmp .lt 13, 3) := by decide +kernel
theorem dX4_isFigure_6 : decode cX4_isFigure 6 = .ok (.iload_n 0, 1) := by decide +kernel
theorem dX4_isFigure_7 : decode cX4_isFigure 7 = .ok (.bipush 57, 2) := by decide +kernel
theorem dX4_isFigure_9 : decode cX4_isFigure 9 = .ok (.if_icmp .gt 7, 3) := by decide +kernel
theorem dX4_isFigure_12 : decode cX4_isFigure 12 = .ok (.iconst 1, 1) := by decide +kernel
theorem dX4_isFigure_13 : decode cX4_isFigure 13 = .ok (.goto 4, 3) := by decide +kernel
theorem dX4_isFigure_16 : decode cX4_isFigure 16 = .ok (.iconst 0, 1) := by decide +kernel
theorem dX4_isFigure_17 : decode cX4_isFigure 17 = .ok (.ireturn, 1) := by decide +kernel
theorem dX5_init_0 : decode cX5_init 0 = .ok (.aload_n 0, 1) := by decide +kernel
theorem dX5_init_1 : decode cX5_init 1 = .ok (.invokespecial 3, 3) := by decide +kernel
theorem dX5_init_4 : decode cX5_init 4 = .ok (.aload_n 0, 1) := by decide +kernel
theorem dX5_init_5 : decode cX5_init 5 = .ok (.iconst 5, 1) := by decide +kernel
theorem dX5_init_6 : decode cX5_init 6 = .ok (.newarray .int, 2) := by decide +kernel
theorem dX5_init_8 : decode cX5_init 8 = .ok (.putfield 9, 3) := by decide +kernel
theorem dX5_init_11 : decode cX5_init 11 = .ok (.aload_n 0, 1) := by decide +kernel
theorem dX5_init_12 : decode cX5_init 12 = .ok (.bipush 9, 2) := by decide +kernel
theorem dX5_init_14 : decode cX5_init 14 = .ok (.newarray .int, 2) := by decide +kernel
theorem dX5_init_16 : decode cX5_init 16 = .ok (.putfield 15, 3) := by decide +kernel
theorem dX5_init_19 : decode cX5_init 19 = .ok (.return_, 1) := by decide +kernel
theorem dX5_begin_0 : decode cX5_begin 0 = .ok (.aload_n 0, 1) := by decide +kernel
theorem dX5_begin_1 : decode cX5_begin 1 = .ok (.iconst 0, 1) := by decide +kernel
theorem dX5_begin_2 : decode cX5_begin 2 = .ok (.iconst 0, 1) := by decide +kernel
theorem dX5_begin_3 : decode cX5_begin 3 = .ok (.invokevirtual 18, 3) := by decide +kernel
theorem dX5_begin_6 : decode cX5_begin 6 = .ok (.aload_n 0, 1) := by decide +kernel
theorem dX5_begin_7 : decode cX5_begin 7 = .ok (.iconst 1, 1) := by decide +kernel
theorem dX5_begin_8 : decode cX5_begin 8 = .ok (.iconst 0, 1) := by decide +kernel
theorem dX5_begin_9 : decode cX5_begin 9 = .ok (.invokevirtual 18, 3) := by decide +kernel
theorem dX5_begin_12 : decode cX5_begin 12 = .ok (.aload_n 0, 1) := by decide +kernel
theorem dX5_begin_13 : decode cX5_begin 13 = .ok (.iconst 2, 1) := by decide +kernel
theorem dX5_begin_14 : decode cX5_begin 14 = .ok (.iconst 0, 1) := by decide +kernel
theorem dX5_begin_15 : decode cX5_begin 15 = .ok (.invokevirtual 18, 3) := by decide +kernel
theorem dX5_begin_18 : decode cX5_begin 18 = .ok (.aload_n 0, 1) := by decide +kernel
theorem dX5_begin_19 : decode cX5_begin 19 = .ok (.iconst 3, 1) := by decide +kernel
theorem dX5_begin_20 : decode cX5_begin 20 = .ok (.aload_n 1, 1) := by decide +kernel
theorem dX5_begin_21 : decode cX5_begin 21 = .ok (.iconst 4, 1) := by decide +kernel
theorem dX5_begin_22 : decode cX5_begin 22 = .ok (.invokevirtual 22, 3) := by decide +kernel
theorem dX5_begin_25 : decode cX5_begin 25 = .ok (.invokevirtual 18, 3) := by decide +kernel
theorem dX5_begin_28 : decode cX5_begin 28 = .ok (.aload_n 0, 1) := by decide +kernel
theorem dX5_begin_29 : decode cX5_begin 29 = .ok (.iconst 4, 1) := by decide +kernel
theorem dX5_begin_30 : decode cX5_begin 30 = .ok (.aload_n 1, 1) := by decide +kernel
theorem dX5_begin_31 : decode cX5_begin 31 = .ok (.iconst 5, 1) := by decide +kernel
theorem dX5_begin_32 : decode cX5_begin 32 = .ok (.invokevirtual 22, 3) := by decide +kernel
theorem dX5_begin_35 : decode cX5_begin 35 = .ok (.invokevirtual 18, 3) := by decide +kernel
theorem dX5_begin_38 : decode cX5_begin 38 = .ok (.return_, 1) := by decide +kernel
theorem dX5_inHand_0 : decode cX5_inHand 0 = .ok (.aload_n 0, 1) := by decide +kernel
theorem dX5_inHand_1 : decode cX5_inHand 1 = .ok (.getfield 9, 3) := by decide +kernel
theorem dX5_inHand_4 : decode cX5_inHand 4 = .ok (.iload_n 1, 1) := by decide +kernel
theorem dX5_inHand_5 : decode cX5_inHand 5 = .ok (.invokestatic 28, 3) := by decide +kernel
theorem dX5_inHand_8 : decode cX5_inHand 8 = .ok (.ireturn, 1) := by decide +kernel
theorem dX5_take_0 : decode cX5_take 0 = .ok (.aload_n 0, 1) := by decide +kernel
theorem dX5_take_1 : decode cX5_take 1 = .ok (.getfield 9, 3) := by decide +kernel
theorem dX5_take_4 : decode cX5_take 4 = .ok (.iload_n 1, 1) := by decide +kernel
theorem dX5_take_5 : decode cX5_take 5 = .ok (.iload_n 2, 1) := by decide +kernel
theorem dX5_take_6 : decode cX5_take 6 = .ok (.invokestatic 32, 3) := by decide +kernel
theorem dX5_take_9 : decode cX5_take 9 = .ok (.return_, 1) := by decide +kernel
theorem dX5_draw_0 : decode cX5_draw 0 = .ok (.aload_n 0, 1) := by decide +kernel
theorem dX5_draw_1 : decode cX5_draw 1 = .ok (.aload_n 0, 1) := by decide +kernel
theorem dX5_draw_2 : decode cX5_draw 2 = .ok (.getfield 36, 3) := by decide +kernel
theorem dX5_draw_5 : decode cX5_draw 5 = .ok (.i2l, 1) := by decide +kernel
theorem dX5_draw_6 : decode cX5_draw 6 = .ok (.ldc2_w 40, 3) := by decide +kernel
theorem dX5_draw_9 : decode cX5_draw 9 = .ok (.lmul, 1) := by decide +kernel
theorem dX5_draw_10 : decode cX5_draw 10 = .ok (.ldc2_w 42, 3) := by decide +kernel
theorem dX5_draw_13 : decode cX5_draw 13 = .ok (.ladd, 1) := by decide +kernel
theorem dX5_draw_14 : decode cX5_draw 14 = .ok (.ldc2_w 44, 3) := by decide +kernel
theorem dX5_draw_17 : decode cX5_draw 17 = .ok (.lrem, 1) := by decide +kernel
theorem dX5_draw_18 : decode cX5_draw 18 = .ok (.l2i, 1) := by decide +kernel
theorem dX5_draw_19 : decode cX5_draw 19 = .ok (.putfield 36, 3) := by decide +kernel
theorem dX5_draw_22 : decode cX5_draw 22 = .ok (.iload_n 1, 1) := by decide +kernel
theorem dX5_draw_23 : decode cX5_draw 23 = .ok (.iconst 1, 1) := by decide +kernel
theorem dX5_draw_24 : decode cX5_draw 24 = .ok (.if_icmp .ge 7, 3) := by decide +kernel
theorem dX5_draw_27 : decode cX5_draw 27 = .ok (.iconst 0, 1) := by decide +kernel
theorem dX5_draw_28 : decode cX5_draw 28 = .ok (.goto 12, 3) := by decide +kernel
theorem dX5_draw_31 : decode cX5_draw 31 = .ok (.aload_n 0, 1) := by decide +kernel
theorem dX5_draw_32 : decode cX5_draw 32 = .ok (.getfield 36, 3) := by decide +kernel
theorem dX5_draw_35 : decode cX5_draw 35 = .ok (.ldc 46, 2) := by decide +kernel
theorem dX5_draw_37 : decode cX5_draw 37 = .ok (.idiv, 1) := by decide +kernel
theorem dX5_draw_38 : decode cX5_draw 38 = .ok (.iload_n 1, 1) := by decide +kernel
theorem dX5_draw_39 : decode cX5_draw 39 = .ok (.irem, 1) := by decide +kernel
theorem dX5_draw_40 : decode cX5_draw 40 = .ok (.ireturn, 1) := by decide +kernel
theorem dX5_count_0 : decode cX5_count 0 = .ok (.aload_n 0, 1) := by decide +kernel
theorem dX5_count_1 : decode cX5_count 1 = .ok (.getfield 15, 3) := by decide +kernel
theorem dX5_count_4 : decode cX5_count 4 = .ok (.iload_n 1, 1) := by decide +kernel
theorem dX5_count_5 : decode cX5_count 5 = .ok (.aload_n 0, 1) := by decide +kernel
theorem dX5_count_6 : decode cX5_count 6 = .ok (.getfield 15, 3) := by decide +kernel
theorem dX5_count_9 : decode cX5_count 9 = .ok (.iload_n 1, 1) := by decide +kernel
theorem dX5_count_10 : decode cX5_count 10 = .ok (.invokestatic 28, 3) := by decide +kernel
theorem dX5_count_13 : decode cX5_count 13 = .ok (.iconst 1, 1) := by decide +kernel
theorem dX5_count_14 : decode cX5_count 14 = .ok (.iadd, 1) := by decide +kernel
theorem dX5_count_15 : decode cX5_count 15 = .ok (.invokestatic 32, 3) := by decide +kernel
theorem dX5_count_18 : decode cX5_count 18 = .ok (.return_, 1) := by decide +kernel
theorem dX5_counted_0 : decode cX5_counted 0 = .ok (.aload_n 0, 1) := by decide +kernel
theorem dX5_counted_1 : decode cX5_counted 1 = .ok (.getfield 15, 3) := by decide +kernel
theorem dX5_counted_4 : decode cX5_counted 4 = .ok (.iload_n 1, 1) := by decide +kernel
theorem dX5_counted_5 : decode cX5_counted 5 = .ok (.invokestatic 28, 3) := by decide +kernel
theorem dX5_counted_8 : decode cX5_counted 8 = .ok (.ireturn, 1) := by decide +kernel
theorem dX5_copy_0 : decode cX5_copy 0 = .ok (.aload_n 1, 1) := by decide +kernel
theorem dX5_copy_1 : decode cX5_copy 1 = .ok (.getfield 9, 3) := by decide +kernel
theorem dX5_copy_4 : decode cX5_copy 4 = .ok (.iconst 0, 1) := by decide +kernel
theorem dX5_copy_5 : decode cX5_copy 5 = .ok (.aload_n 0, 1) := by decide +kernel
theorem dX5_copy_6 : decode cX5_copy 6 = .ok (.getfield 9, 3) := by decide +kernel
theorem dX5_copy_9 : decode cX5_copy 9 = .ok (.iconst 0, 1) := by decide +kernel
theorem dX5_copy_10 : decode cX5_copy 10 = .ok (.aload_n 1, 1) := by decide +kernel
theorem dX5_copy_11 : decode cX5_copy 11 = .ok (.getfield 9, 3) := by decide +kernel
theorem dX5_copy_14 : decode cX5_copy 14 = .ok (.arraylength, 1) := by decide +kernel
theorem dX5_copy_15 : decode cX5_copy 15 = .ok (.aload_n 0, 1) := by decide +kernel
theorem dX5_copy_16 : decode cX5_copy 16 = .ok (.getfield 9, 3) := by decide +kernel
theorem dX5_copy_19 : decode cX5_copy 19 = .ok (.arraylength, 1) := by decide +kernel
theorem dX5_copy_20 : decode cX5_copy 20 = .ok (.invokestatic 47, 3) := by decide +kernel
theorem dX5_copy_23 : decode cX5_copy 23 = .ok (.invokestatic 53, 3) := by decide +kernel
theorem dX5_copy_26 : decode cX5_copy 26 = .ok (.aload_n 1, 1) := by decide +kernel
theorem dX5_copy_27 : decode cX5_copy 27 = .ok (.getfield 15, 3) := by decide +kernel
theorem dX5_copy_30 : decode cX5_copy 30 = .ok (.iconst 0, 1) := by decide +kernel
theorem dX5_copy_31 : decode cX5_copy 31 = .ok (.aload_n 0, 1) := by decide +kernel
theorem dX5_copy_32 : decode cX5_copy 32 = .ok (.getfield 15, 3) := by decide +kernel
theorem dX5_copy_35 : decode cX5_copy 35 = .ok (.iconst 0, 1) := by decide +kernel
theorem dX5_copy_36 : decode cX5_copy 36 = .ok (.aload_n 1, 1) := by decide +kernel
theorem dX5_copy_37 : decode cX5_copy 37 = .ok (.getfield 15, 3) := by decide +kernel
theorem dX5_copy_40 : decode cX5_copy 40 = .ok (.arraylength, 1) := by decide +kernel
theorem dX5_copy_41 : decode cX5_copy 41 = .ok (.aload_n 0, 1) := by decide +kernel
theorem dX5_copy_42 : decode cX5_copy 42 = .ok (.getfield 15, 3) := by decide +kernel
theorem dX5_copy_45 : decode cX5_copy 45 = .ok (.arraylength, 1) := by decide +kernel
theorem dX5_copy_46 : decode cX5_copy 46 = .ok (.invokestatic 47, 3) := by decide +kernel
theorem dX5_copy_49 : decode cX5_copy 49 = .ok (.invokestatic 53, 3) := by decide +kernel
theorem dX5_copy_52 : decode cX5_copy 52 = .ok (.aload_n 0, 1) := by decide +kernel
theorem dX5_copy_53 : decode cX5_copy 53 = .ok (.aload_n 1, 1) := by decide +kernel
theorem dX5_copy_54 : decode cX5_copy 54 = .ok (.getfield 36, 3) := by decide +kernel
theorem dX5_copy_57 : decode cX5_copy 57 = .ok (.putfield 36, 3) := by decide +kernel
theorem dX5_copy_60 : decode cX5_copy 60 = .ok (.return_, 1) := by decide +kernel
theorem dX6_init_0 : decode cX6_init 0 = .ok (.aload_n 0, 1) := by decide +kernel
theorem dX6_init_1 : decode cX6_init 1 = .ok (.invokespecial 1, 3) := by decide +kernel
theorem dX6_init_4 : decode cX6_init 4 = .ok (.aload_n 0, 1) := by decide +kernel
theorem dX6_init_5 : decode cX6_init 5 = .ok (.iconst 5, 1) := by decide +kernel
theorem dX6_init_6 : decode cX6_init 6 = .ok (.newarray .int, 2) := by decide +kernel
theorem dX6_init_8 : decode cX6_init 8 = .ok (.putfield 9, 3) := by decide +kernel
theorem dX6_init_11 : decode cX6_init 11 = .ok (.return_, 1) := by decide +kernel
theorem dX6_least_0 : decode cX6_least 0 = .ok (.getstatic 13, 3) := by decide +kernel
theorem dX6_least_3 : decode cX6_least 3 = .ok (.iload_n 0, 1) := by decide +kernel
theorem dX6_least_4 : decode cX6_least 4 = .ok (.invokestatic 16, 3) := by decide +kernel
theorem dX6_least_7 : decode cX6_least 7 = .ok (.ireturn, 1) := by decide +kernel
theorem dX6_most_0 : decode cX6_most 0 = .ok (.getstatic 22, 3) := by decide +kernel
theorem dX6_most_3 : decode cX6_most 3 = .ok (.iload_n 0, 1) := by decide +kernel
theorem dX6_most_4 : decode cX6_most 4 = .ok (.invokestatic 16, 3) := by decide +kernel
theorem dX6_most_7 : decode cX6_most 7 = .ok (.ireturn, 1) := by decide +kernel
theorem dX6_number_0 : decode cX6_number 0 = .ok (.aload_n 0, 1) := by decide +kernel
theorem dX6_number_1 : decode cX6_number 1 = .ok (.getfield 9, 3) := by decide +kernel
theorem dX6_number_4 : decode cX6_number 4 = .ok (.iload_n 1, 1) := by decide +kernel
theorem dX6_number_5 : decode cX6_number 5 = .ok (.invokestatic 16, 3) := by decide +kernel
theorem dX6_number_8 : decode cX6_number 8 = .ok (.ireturn, 1) := by decide +kernel
theorem dX7_init_0 : decode cX7_init 0 = .ok (.aload_n 0, 1) := by decide +kernel
theorem dX7_init_1 : decode cX7_init 1 = .ok (.invokespecial 3, 3) := by decide +kernel
theorem dX7_init_4 : decode cX7_init 4 = .ok (.aload_n 0, 1) := by decide +kernel
theorem dX7_init_5 : decode cX7_init 5 = .ok (.sipush 300, 3) := by decide +kernel
theorem dX7_init_8 : decode cX7_init 8 = .ok (.newarray .int, 2) := by decide +kernel
theorem dX7_init_10 : decode cX7_init 10 = .ok (.putfield 11, 3) := by decide +kernel
theorem dX7_init_13 : decode cX7_init 13 = .ok (.return_, 1) := by decide +kernel
theorem dX7_length_0 : decode cX7_length 0 = .ok (.aload_n 0, 1) := by decide +kernel
theorem dX7_length_1 : decode cX7_length 1 = .ok (.getfield 15, 3) := by decide +kernel
theorem dX7_length_4 : decode cX7_length 4 = .ok (.ireturn, 1) := by decide +kernel
theorem dX7_add_0 : decode cX7_add 0 = .ok (.aload_n 0, 1) := by decide +kernel
theorem dX7_add_1 : decode cX7_add 1 = .ok (.getfield 15, 3) := by decide +kernel
theorem dX7_add_4 : decode cX7_add 4 = .ok (.sipush 300, 3) := by decide +kernel
theorem dX7_add_7 : decode cX7_add 7 = .ok (.if_icmp .ge 25, 3) := by decide +kernel
theorem dX7_add_10 : decode cX7_add 10 = .ok (.aload_n 0, 1) := by decide +kernel
theorem dX7_add_11 : decode cX7_add 11 = .ok (.getfield 11, 3) := by decide +kernel
theorem dX7_add_14 : decode cX7_add 14 = .ok (.aload_n 0, 1) := by decide +kernel
theorem dX7_add_15 : decode cX7_add 15 = .ok (.getfield 15, 3) := by decide +kernel
theorem dX7_add_18 : decode cX7_add 18 = .ok (.iload_n 1, 1) := by decide +kernel
theorem dX7_add_19 : decode cX7_add 19 = .ok (.invokestatic 19, 3) := by decide +kernel
theorem dX7_add_22 : decode cX7_add 22 = .ok (.aload_n 0, 1) := by decide +kernel
theorem dX7_add_23 : decode cX7_add 23 = .ok (.dup, 1) := by decide +kernel
theorem dX7_add_24 : decode cX7_add 24 = .ok (.getfield 15, 3) := by decide +kernel
theorem dX7_add_27 : decode cX7_add 27 = .ok (.iconst 1, 1) := by decide +kernel
theorem dX7_add_28 : decode cX7_add 28 = .ok (.iadd, 1) := by decide +kernel
theorem dX7_add_29 : decode cX7_add 29 = .ok (.putfield 15, 3) := by decide +kernel
theorem dX7_add_32 : decode cX7_add 32 = .ok (.return_, 1) := by decide +kernel
theorem dX7_byteAt_0 : decode cX7_byteAt 0 = .ok (.iload_n 1, 1) := by decide +kernel
theorem dX7_byteAt_1 : decode cX7_byteAt 1 = .ok (.ifCond .lt 29, 3) := by decide +kernel
theorem dX7_byteAt_4 : decode cX7_byteAt 4 = .ok (.iload_n 1, 1) := by decide +kernel
theorem dX7_byteAt_5 : decode cX7_byteAt 5 = .ok (.aload_n 0, 1) := by decide +kernel
theorem dX7_byteAt_6 : decode cX7_byteAt 6 = .ok (.getfield 15, 3) := by decide +kernel
theorem dX7_byteAt_9 : decode cX7_byteAt 9 = .ok (.if_icmp .ge 21, 3) := by decide +kernel
theorem dX7_byteAt_12 : decode cX7_byteAt 12 = .ok (.iload_n 1, 1) := by decide +kernel
theorem dX7_byteAt_13 : decode cX7_byteAt 13 = .ok (.aload_n 0, 1) := by decide +kernel
theorem dX7_byteAt_14 : decode cX7_byteAt 14 = .ok (.getfield 11, 3) := by decide +kernel
theorem dX7_byteAt_17 : decode cX7_byteAt 17 = .ok (.arraylength, 1) := by decide +kernel
theorem dX7_byteAt_18 : decode cX7_byteAt 18 = .ok (.if_icmp .ge 12, 3) := by decide +kernel
theorem dX7_byteAt_21 : decode cX7_byteAt 21 = .ok (.aload_n 0, 1) := by decide +kernel
theorem dX7_byteAt_22 : decode cX7_byteAt 22 = .ok (.getfield 11, 3) := by decide +kernel
theorem dX7_byteAt_25 : decode cX7_byteAt 25 = .ok (.iload_n 1, 1) := by decide +kernel
theorem dX7_byteAt_26 : decode cX7_byteAt 26 = .ok (.iaload, 1) := by decide +kernel
theorem dX7_byteAt_27 : decode cX7_byteAt 27 = .ok (.goto 4, 3) := by decide +kernel
theorem dX7_byteAt_30 : decode cX7_byteAt 30 = .ok (.iconst (-1), 1) := by decide +kernel
theorem dX7_byteAt_31 : decode cX7_byteAt 31 = .ok (.ireturn, 1) := by decide +kernel
theorem dX7_clear_0 : decode cX7_clear 0 = .ok (.aload_n 0, 1) := by decide +kernel
theorem dX7_clear_1 : decode cX7_clear 1 = .ok (.iconst 0, 1) := by decide +kernel
theorem dX7_clear_2 : decode cX7_clear 2 = .ok (.putfield 15, 3) := by decide +kernel
theorem dX7_clear_5 : decode cX7_clear 5 = .ok (.return_, 1) := by decide +kernel
theorem dX8_init_0 : decode cX8_init 0 = .ok (.aload_n 0, 1) := by decide +kernel
theorem dX8_init_1 : decode cX8_init 1 = .ok (.invokespecial 3, 3) := by decide +kernel
theorem dX8_init_4 : decode cX8_init 4 = .ok (.return_, 1) := by decide +kernel
theorem dX8_scan_0 : decode cX8_scan 0 = .ok (.aload_n 0, 1) := by decide +kernel
theorem dX8_scan_1 : decode cX8_scan 1 = .ok (.iconst (-1), 1) := by decide +kernel
theorem dX8_scan_2 : decode cX8_scan 2 = .ok (.putfield 9, 3) := by decide +kernel
theorem dX8_scan_5 : decode cX8_scan 5 = .ok (.aload_n 0, 1) := by decide +kernel
theorem dX8_scan_6 : decode cX8_scan 6 = .ok (.iconst (-1), 1) := by decide +kernel
theorem dX8_scan_7 : decode cX8_scan 7 = .ok (.putfield 15, 3) := by decide +kernel
theorem dX8_scan_10 : decode cX8_scan 10 = .ok (.aload_n 0, 1) := by decide +kernel
theorem dX8_scan_11 : decode cX8_scan 11 = .ok (.iconst 0, 1) := by decide +kernel
theorem dX8_scan_12 : decode cX8_scan 12 = .ok (.putfield 18, 3) := by decide +kernel
theorem dX8_scan_15 : decode cX8_scan 15 = .ok (.aload_n 0, 1) := by decide +kernel
theorem dX8_scan_16 : decode cX8_scan 16 = .ok (.iconst (-1), 1) := by decide +kernel
theorem dX8_scan_17 : decode cX8_scan 17 = .ok (.putfield 21, 3) := by decide +kernel
theorem dX8_scan_20 : decode cX8_scan 20 = .ok (.aload_n 0, 1) := by decide +kernel
theorem dX8_scan_21 : decode cX8_scan 21 = .ok (.iconst 0, 1) := by decide +kernel
theorem dX8_scan_22 : decode cX8_scan 22 = .ok (.putfield 24, 3) := by decide +kernel
theorem dX8_scan_25 : decode cX8_scan 25 = .ok (.iconst 0, 1) := by decide +kernel
theorem dX8_scan_26 : decode cX8_scan 26 = .ok (.istore_n 2, 1) := by decide +kernel
theorem dX8_scan_27 : decode cX8_scan 27 = .ok (.iconst 0, 1) := by decide +kernel
theorem dX8_scan_28 : decode cX8_scan 28 = .ok (.istore_n 3, 1) := by decide +kernel
theorem dX8_scan_29 : decode cX8_scan 29 = .ok (.iconst 0, 1) := by decide +kernel
theorem dX8_scan_30 : decode cX8_scan 30 = .ok (.istore 4, 2) := by decide +kernel
theorem dX8_scan_32 : decode cX8_scan 32 = .ok (.iconst 1, 1) := by decide +kernel
theorem dX8_scan_33 : decode cX8_scan 33 = .ok (.istore 5, 2) := by decide +kernel
theorem dX8_scan_35 : decode cX8_scan 35 = .ok (.iload 5, 2) := by decide +kernel
theorem dX8_scan_37 : decode cX8_scan 37 = .ok (.sipush 200, 3) := by decide +kernel
theorem dX8_scan_40 : decode cX8_scan 40 = .ok (.if_icmp .gt 122, 3) := by decide +kernel
theorem dX8_scan_43 : decode cX8_scan 43 = .ok (.aload_n 1, 1) := by decide +kernel
theorem dX8_scan_44 : decode cX8_scan 44 = .ok (.iload 5, 2) := by decide +kernel
theorem dX8_scan_46 : decode cX8_scan 46 = .ok (.aload_n 1, 1) := by decide +kernel
theorem dX8_scan_47 : decode cX8_scan 47 = .ok (.getfield 27, 3) := by decide +kernel
theorem dX8_scan_50 : decode cX8_scan 50 = .ok (.iadd, 1) := by decide +kernel
theorem dX8_scan_51 : decode cX8_scan 51 = .ok (.invokevirtual 32, 3) := by decide +kernel
theorem dX8_scan_54 : decode cX8_scan 54 = .ok (.ifCond .ne 9, 3) := by decide +kernel
theorem dX8_scan_57 : decode cX8_scan 57 = .ok (.iconst 0, 1) := by decide +kernel
theorem dX8_scan_58 : decode cX8_scan 58 = .ok (.istore 4, 2) := by decide +kernel
theorem dX8_scan_60 : decode cX8_scan 60 = .ok (.goto 96, 3) := by decide +kernel
theorem dX8_scan_63 : decode cX8_scan 63 = .ok (.aload_n 0, 1) := by decide +kernel
theorem dX8_scan_64 : decode cX8_scan 64 = .ok (.dup, 1) := by decide +kernel
theorem dX8_scan_65 : decode cX8_scan 65 = .ok (.getfield 24, 3) := by decide +kernel
theorem dX8_scan_68 : decode cX8_scan 68 = .ok (.iconst 1, 1) := by decide +kernel
theorem dX8_scan_69 : decode cX8_scan 69 = .ok (.iadd, 1) := by decide +kernel
theorem dX8_scan_70 : decode cX8_scan 70 = .ok (.putfield 24, 3) := by decide +kernel
theorem dX8_scan_73 : decode cX8_scan 73 = .ok (.iinc 4 1, 3) := by decide +kernel
theorem dX8_scan_76 : decode cX8_scan 76 = .ok (.iload 4, 2) := by decide +kernel
theorem dX8_scan_78 : decode cX8_scan 78 = .ok (.aload_n 0, 1) := by decide +kernel
theorem dX8_scan_79 : decode cX8_scan 79 = .ok (.getfield 18, 3) := by decide +kernel
theorem dX8_scan_82 : decode cX8_scan 82 = .ok (.if_icmp .le 20, 3) := by decide +kernel
theorem dX8_scan_85 : decode cX8_scan 85 = .ok (.aload_n 0, 1) := by decide +kernel
theorem dX8_scan_86 : decode cX8_scan 86 = .ok (.iload 4, 2) := by decide +kernel
theorem dX8_scan_88 : decode cX8_scan 88 = .ok (.putfield 18, 3) := by decide +kernel
theorem dX8_scan_91 : decode cX8_scan 91 = .ok (.aload_n 0, 1) := by decide +kernel
theorem dX8_scan_92 : decode cX8_scan 92 = .ok (.iload 5, 2) := by decide +kernel
theorem dX8_scan_94 : decode cX8_scan 94 = .ok (.iload 4, 2) := by decide +kernel
theorem dX8_scan_96 : decode cX8_scan 96 = .ok (.isub, 1) := by decide +kernel
theorem dX8_scan_97 : decode cX8_scan 97 = .ok (.iconst 1, 1) := by decide +kernel
theorem dX8_scan_98 : decode cX8_scan 98 = .ok (.iadd, 1) := by decide +kernel
theorem dX8_scan_99 : decode cX8_scan 99 = .ok (.putfield 21, 3) := by decide +kernel
theorem dX8_scan_102 : decode cX8_scan 102 = .ok (.aload_n 0, 1) := by decide +kernel
theorem dX8_scan_103 : decode cX8_scan 103 = .ok (.getfield 9, 3) := by decide +kernel
theorem dX8_scan_106 : decode cX8_scan 106 = .ok (.iconst (-1), 1) := by decide +kernel
theorem dX8_scan_107 : decode cX8_scan 107 = .ok (.if_icmp .eq 11, 3) := by decide +kernel
theorem dX8_scan_110 : decode cX8_scan 110 = .ok (.aload_n 1, 1) := by decide +kernel
theorem dX8_scan_111 : decode cX8_scan 111 = .ok (.getfield 36, 3) := by decide +kernel
theorem dX8_scan_114 : decode cX8_scan 114 = .ok (.iload_n 2, 1) := by decide +kernel
theorem dX8_scan_115 : decode cX8_scan 115 = .ok (.if_icmp .le 14, 3) := by decide +kernel
theorem dX8_scan_118 : decode cX8_scan 118 = .ok (.aload_n 0, 1) := by decide +kernel
theorem dX8_scan_119 : decode cX8_scan 119 = .ok (.iload 5, 2) := by decide +kernel
theorem dX8_scan_121 : decode cX8_scan 121 = .ok (.putfield 9, 3) := by decide +kernel
theorem dX8_scan_124 : decode cX8_scan 124 = .ok (.aload_n 1, 1) := by decide +kernel
theorem dX8_scan_125 : decode cX8_scan 125 = .ok (.getfield 36, 3) := by decide +kernel
theorem dX8_scan_128 : decode cX8_scan 128 = .ok (.istore_n 2, 1) := by decide +kernel
theorem dX8_scan_129 : decode cX8_scan 129 = .ok (.aload_n 0, 1) := by decide +kernel
theorem dX8_scan_130 : decode cX8_scan 130 = .ok (.getfield 15, 3) := by decide +kernel
theorem dX8_scan_133 : decode cX8_scan 133 = .ok (.iconst (-1), 1) := by decide +kernel
theorem dX8_scan_134 : decode cX8_scan 134 = .ok (.if_icmp .eq 11, 3) := by decide +kernel
theorem dX8_scan_137 : decode cX8_scan 137 = .ok (.aload_n 1, 1) := by decide +kernel
theorem dX8_scan_138 : decode cX8_scan 138 = .ok (.getfield 39, 3) := by decide +kernel
theorem dX8_scan_141 : decode cX8_scan 141 = .ok (.iload_n 3, 1) := by decide +kernel
theorem dX8_scan_142 : decode cX8_scan 142 = .ok (.if_icmp .le 14, 3) := by decide +kernel
theorem dX8_scan_145 : decode cX8_scan 145 = .ok (.aload_n 0, 1) := by decide +kernel
theorem dX8_scan_146 : decode cX8_scan 146 = .ok (.iload 5, 2) := by decide +kernel
theorem dX8_scan_148 : decode cX8_scan 148 = .ok (.putfield 15, 3) := by decide +kernel
theorem dX8_scan_151 : decode cX8_scan 151 = .ok (.aload_n 1, 1) := by decide +kernel
theorem dX8_scan_152 : decode cX8_scan 152 = .ok (.getfield 39, 3) := by decide +kernel
theorem dX8_scan_155 : decode cX8_scan 155 = .ok (.istore_n 3, 1) := by decide +kernel
theorem dX8_scan_156 : decode cX8_scan 156 = .ok (.iinc 5 1, 3) := by decide +kernel
theorem dX8_scan_159 : decode cX8_scan 159 = .ok (.goto (-124), 3) := by decide +kernel
theorem dX8_scan_162 : decode cX8_scan 162 = .ok (.return_, 1) := by decide +kernel
theorem dX9_init_0 : decode cX9_init 0 = .ok (.aload_n 0, 1) := by decide +kernel
theorem dX9_init_1 : decode cX9_init 1 = .ok (.invokespecial 1, 3) := by decide +kernel
theorem dX9_init_4 : decode cX9_init 4 = .ok (.aload_n 0, 1) := by decide +kernel
theorem dX9_init_5 : decode cX9_init 5 = .ok (.new 7, 3) := by decide +kernel
theorem dX9_init_8 : decode cX9_init 8 = .ok (.dup, 1) := by decide +kernel
theorem dX9_init_9 : decode cX9_init 9 = .ok (.invokespecial 9, 3) := by decide +kernel
theorem dX9_init_12 : decode cX9_init 12 = .ok (.putfield 10, 3) := by decide +kernel
theorem dX9_init_15 : decode cX9_init 15 = .ok (.aload_n 0, 1) := by decide +kernel
theorem dX9_init_16 : decode cX9_init 16 = .ok (.new 16, 3) := by decide +kernel
theorem dX9_init_19 : decode cX9_init 19 = .ok (.dup, 1) := by decide +kernel
theorem dX9_init_20 : decode cX9_init 20 = .ok (.aload_n 0, 1) := by decide +kernel
theorem dX9_init_21 : decode cX9_init 21 = .ok (.getfield 10, 3) := by decide +kernel
theorem dX9_init_24 : decode cX9_init 24 = .ok (.invokespecial 18, 3) := by decide +kernel
theorem dX9_init_27 : decode cX9_init 27 = .ok (.putfield 21, 3) := by decide +kernel
theorem dX9_init_30 : decode cX9_init 30 = .ok (.aload_n 0, 1) := by decide +kernel
theorem dX9_init_31 : decode cX9_init 31 = .ok (.new 25, 3) := by decide +kernel
theorem dX9_init_34 : decode cX9_init 34 = .ok (.dup, 1) := by decide +kernel
theorem dX9_init_35 : decode cX9_init 35 = .ok (.invokespecial 27, 3) := by decide +kernel
theorem dX9_init_38 : decode cX9_init 38 = .ok (.putfield 28, 3) := by decide +kernel
theorem dX9_init_41 : decode cX9_init 41 = .ok (.aload_n 0, 1) := by decide +kernel
theorem dX9_init_42 : decode cX9_init 42 = .ok (.new 25, 3) := by decide +kernel
theorem dX9_init_45 : decode cX9_init 45 = .ok (.dup, 1) := by decide +kernel
theorem dX9_init_46 : decode cX9_init 46 = .ok (.invokespecial 27, 3) := by decide +kernel
theorem dX9_init_49 : decode cX9_init 49 = .ok (.putfield 32, 3) := by decide +kernel
theorem dX9_init_52 : decode cX9_init 52 = .ok (.aload_n 0, 1) := by decide +kernel
theorem dX9_init_53 : decode cX9_init 53 = .ok (.bipush 8, 2) := by decide +kernel
theorem dX9_init_55 : decode cX9_init 55 = .ok (.anewarray 35, 3) := by decide +kernel
theorem dX9_init_58 : decode cX9_init 58 = .ok (.putfield 37, 3) := by decide +kernel
theorem dX9_init_61 : decode cX9_init 61 = .ok (.iconst 0, 1) := by decide +kernel
theorem dX9_init_62 : decode cX9_init 62 = .ok (.istore_n 1, 1) := by decide +kernel
theorem dX9_init_63 : decode cX9_init 63 = .ok (.iload_n 1, 1) := by decide +kernel
theorem dX9_init_64 : decode cX9_init 64 = .ok (.aload_n 0, 1) := by decide +kernel
theorem dX9_init_65 : decode cX9_init 65 = .ok (.getfield 37, 3) := by decide +kernel
theorem dX9_init_68 : decode cX9_init 68 = .ok (.arraylength, 1) := by decide +kernel
theorem dX9_init_69 : decode cX9_init 69 = .ok (.if_icmp .ge 22, 3) := by decide +kernel
theorem dX9_init_72 : decode cX9_init 72 = .ok (.aload_n 0, 1) := by decide +kernel
theorem dX9_init_73 : decode cX9_init 73 = .ok (.getfield 37, 3) := by decide +kernel
theorem dX9_init_76 : decode cX9_init 76 = .ok (.iload_n 1, 1) := by decide +kernel
theorem dX9_init_77 : decode cX9_init 77 = .ok (.new 35, 3) := by decide +kernel
theorem dX9_init_80 : decode cX9_init 80 = .ok (.dup, 1) := by decide +kernel
theorem dX9_init_81 : decode cX9_init 81 = .ok (.invokespecial 41, 3) := by decide +kernel
theorem dX9_init_84 : decode cX9_init 84 = .ok (.aastore, 1) := by decide +kernel
theorem dX9_init_85 : decode cX9_init 85 = .ok (.iinc 1 1, 3) := by decide +kernel
theorem dX9_init_88 : decode cX9_init 88 = .ok (.goto (-25), 3) := by decide +kernel
theorem dX9_init_91 : decode cX9_init 91 = .ok (.aload_n 0, 1) := by decide +kernel
theorem dX9_init_92 : decode cX9_init 92 = .ok (.new 42, 3) := by decide +kernel
theorem dX9_init_95 : decode cX9_init 95 = .ok (.dup, 1) := by decide +kernel
theorem dX9_init_96 : decode cX9_init 96 = .ok (.invokespecial 44, 3) := by decide +kernel
theorem dX9_init_99 : decode cX9_init 99 = .ok (.putfield 45, 3) := by decide +kernel
theorem dX9_init_102 : decode cX9_init 102 = .ok (.aload_n 0, 1) := by decide +kernel
theorem dX9_init_103 : decode cX9_init 103 = .ok (.iconst 2, 1) := by decide +kernel
theorem dX9_init_104 : decode cX9_init 104 = .ok (.anewarray 42, 3) := by decide +kernel
theorem dX9_init_107 : decode cX9_init 107 = .ok (.putfield 49, 3) := by decide +kernel
theorem dX9_init_110 : decode cX9_init 110 = .ok (.iconst 0, 1) := by decide +kernel
theorem dX9_init_111 : decode cX9_init 111 = .ok (.istore_n 1, 1) := by decide +kernel
theorem dX9_init_112 : decode cX9_init 112 = .ok (.iload_n 1, 1) := by decide +kernel
theorem dX9_init_113 : decode cX9_init 113 = .ok (.aload_n 0, 1) := by decide +kernel
theorem dX9_init_114 : decode cX9_init 114 = .ok (.getfield 49, 3) := by decide +kernel
theorem dX9_init_117 : decode cX9_init 117 = .ok (.arraylength, 1) := by decide +kernel
theorem dX9_init_118 : decode cX9_init 118 = .ok (.if_icmp .ge 22, 3) := by decide +kernel
theorem dX9_init_121 : decode cX9_init 121 = .ok (.aload_n 0, 1) := by decide +kernel
theorem dX9_init_122 : decode cX9_init 122 = .ok (.getfield 49, 3) := by decide +kernel
theorem dX9_init_125 : decode cX9_init 125 = .ok (.iload_n 1, 1) := by decide +kernel
theorem dX9_init_126 : decode cX9_init 126 = .ok (.new 42, 3) := by decide +kernel
theorem dX9_init_129 : decode cX9_init 129 = .ok (.dup, 1) := by decide +kernel
theorem dX9_init_130 : decode cX9_init 130 = .ok (.invokespecial 44, 3) := by decide +kernel
theorem dX9_init_133 : decode cX9_init 133 = .ok (.aastore, 1) := by decide +kernel
theorem dX9_init_134 : decode cX9_init 134 = .ok (.iinc 1 1, 3) := by decide +kernel
theorem dX9_init_137 : decode cX9_init 137 = .ok (.goto (-25), 3) := by decide +kernel
theorem dX9_init_140 : decode cX9_init 140 = .ok (.aload_n 0, 1) := by decide +kernel
theorem dX9_init_141 : decode cX9_init 141 = .ok (.new 53, 3) := by decide +kernel
theorem dX9_init_144 : decode cX9_init 144 = .ok (.dup, 1) := by decide +kernel
theorem dX9_init_145 : decode cX9_init 145 = .ok (.invokespecial 55, 3) := by decide +kernel
theorem dX9_init_148 : decode cX9_init 148 = .ok (.putfield 56, 3) := by decide +kernel
theorem dX9_init_151 : decode cX9_init 151 = .ok (.aload_n 0, 1) := by decide +kernel
theorem dX9_init_152 : decode cX9_init 152 = .ok (.new 60, 3) := by decide +kernel
theorem dX9_init_155 : decode cX9_init 155 = .ok (.dup, 1) := by decide +kernel
theorem dX9_init_156 : decode cX9_init 156 = .ok (.invokespecial 62, 3) := by decide +kernel
theorem dX9_init_159 : decode cX9_init 159 = .ok (.putfield 63, 3) := by decide +kernel
theorem dX9_init_162 : decode cX9_init 162 = .ok (.aload_n 0, 1) := by decide +kernel
theorem dX9_init_163 : decode cX9_init 163 = .ok (.new 67, 3) := by decide +kernel
theorem dX9_init_166 : decode cX9_init 166 = .ok (.dup, 1) := by decide +kernel
theorem dX9_init_167 : decode cX9_init 167 = .ok (.aload_n 0, 1) := by decide +kernel
theorem dX9_init_168 : decode cX9_init 168 = .ok (.getfield 28, 3) := by decide +kernel
theorem dX9_init_171 : decode cX9_init 171 = .ok (.aload_n 0, 1) := by decide +kernel
theorem dX9_init_172 : decode cX9_init 172 = .ok (.getfield 63, 3) := by decide +kernel
theorem dX9_init_175 : decode cX9_init 175 = .ok (.invokespecial 69, 3) := by decide +kernel
theorem dX9_init_178 : decode cX9_init 178 = .ok (.putfield 72, 3) := by decide +kernel
theorem dX9_init_181 : decode cX9_init 181 = .ok (.aload_n 0, 1) := by decide +kernel
theorem dX9_init_182 : decode cX9_init 182 = .ok (.new 76, 3) := by decide +kernel
theorem dX9_init_185 : decode cX9_init 185 = .ok (.dup, 1) := by decide +kernel
theorem dX9_init_186 : decode cX9_init 186 = .ok (.invokespecial 78, 3) := by decide +kernel
theorem dX9_init_189 : decode cX9_init 189 = .ok (.putfield 79, 3) := by decide +kernel
theorem dX9_init_192 : decode cX9_init 192 = .ok (.aload_n 0, 1) := by decide +kernel
theorem dX9_init_193 : decode cX9_init 193 = .ok (.bipush 8, 2) := by decide +kernel
theorem dX9_init_195 : decode cX9_init 195 = .ok (.newarray .int, 2) := by decide +kernel
theorem dX9_init_197 : decode cX9_init 197 = .ok (.putfield 83, 3) := by decide +kernel
theorem dX9_init_200 : decode cX9_init 200 = .ok (.aload_n 0, 1) := by decide +kernel
theorem dX9_init_201 : decode cX9_init 201 = .ok (.iconst (-1), 1) := by decide +kernel
theorem dX9_init_202 : decode cX9_init 202 = .ok (.putfield 87, 3) := by decide +kernel
theorem dX9_init_205 : decode cX9_init 205 = .ok (.aload_n 0, 1) := by decide +kernel
theorem dX9_init_206 : decode cX9_init 206 = .ok (.getfield 45, 3) := by decide +kernel
theorem dX9_init_209 : decode cX9_init 209 = .ok (.aload_n 0, 1) := by decide +kernel
theorem dX9_init_210 : decode cX9_init 210 = .ok (.getfield 28, 3) := by decide +kernel
theorem dX9_init_213 : decode cX9_init 213 = .ok (.invokevirtual 91, 3) := by decide +kernel
theorem dX9_init_216 : decode cX9_init 216 = .ok (.return_, 1) := by decide +kernel
theorem dX9_feed_0 : decode cX9_feed 0 = .ok (.iload_n 1, 1) := by decide +kernel
theorem dX9_feed_1 : decode cX9_feed 1 = .ok (.iconst 1, 1) := by decide +kernel
theorem dX9_feed_2 : decode cX9_feed 2 = .ok (.if_icmp .lt 9, 3) := by decide +kernel
theorem dX9_feed_5 : decode cX9_feed 5 = .ok (.iload_n 1, 1) := by decide +kernel
theorem dX9_feed_6 : decode cX9_feed 6 = .ok (.bipush 8, 2) := by decide +kernel
theorem dX9_feed_8 : decode cX9_feed 8 = .ok (.if_icmp .le 6, 3) := by decide +kernel
theorem dX9_feed_11 : decode cX9_feed 11 = .ok (.ldc 95, 2) := by decide +kernel
theorem dX9_feed_13 : decode cX9_feed 13 = .ok (.ireturn, 1) := by decide +kernel
theorem dX9_feed_14 : decode cX9_feed 14 = .ok (.aload_n 0, 1) := by decide +kernel
theorem dX9_feed_15 : decode cX9_feed 15 = .ok (.getfield 10, 3) := by decide +kernel
theorem dX9_feed_18 : decode cX9_feed 18 = .ok (.invokevirtual 96, 3) := by decide +kernel
theorem dX9_feed_21 : decode cX9_feed 21 = .ok (.iload_n 1, 1) := by decide +kernel
theorem dX9_feed_22 : decode cX9_feed 22 = .ok (.iadd, 1) := by decide +kernel
theorem dX9_feed_23 : decode cX9_feed 23 = .ok (.sipush 300, 3) := by decide +kernel
theorem dX9_feed_26 : decode cX9_feed 26 = .ok (.if_icmp .le 6, 3) := by decide +kernel
theorem dX9_feed_29 : decode cX9_feed 29 = .ok (.ldc 100, 2) := by decide +kernel
theorem dX9_feed_31 : decode cX9_feed 31 = .ok (.ireturn, 1) := by decide +kernel
theorem dX9_feed_32 : decode cX9_feed 32 = .ok (.iload_n 1, 1) := by decide +kernel
theorem dX9_feed_33 : decode cX9_feed 33 = .ok (.iconst 1, 1) := by decide +kernel
theorem dX9_feed_34 : decode cX9_feed 34 = .ok (.isub, 1) := by decide +kernel
theorem dX9_feed_35 : decode cX9_feed 35 = .ok (.istore 4, 2) := by decide +kernel
theorem dX9_feed_37 : decode cX9_feed 37 = .ok (.iload 4, 2) := by decide +kernel
theorem dX9_feed_39 : decode cX9_feed 39 = .ok (.ifCond .lt 28, 3) := by decide +kernel
theorem dX9_feed_42 : decode cX9_feed 42 = .ok (.aload_n 0, 1) := by decide +kernel
theorem dX9_feed_43 : decode cX9_feed 43 = .ok (.getfield 10, 3) := by decide +kernel
theorem dX9_feed_46 : decode cX9_feed 46 = .ok (.lload_n 2, 1) := by decide +kernel
theorem dX9_feed_47 : decode cX9_feed 47 = .ok (.bipush 8, 2) := by decide +kernel
theorem dX9_feed_49 : decode cX9_feed 49 = .ok (.iload 4, 2) := by decide +kernel
theorem dX9_feed_51 : decode cX9_feed 51 = .ok (.imul, 1) := by decide +kernel
theorem dX9_feed_52 : decode cX9_feed 52 = .ok (.lushr, 1) := by decide +kernel
theorem dX9_feed_53 : decode cX9_feed 53 = .ok (.l2i, 1) := by decide +kernel
theorem dX9_feed_54 : decode cX9_feed 54 = .ok (.sipush 255, 3) := by decide +kernel
theorem dX9_feed_57 : decode cX9_feed 57 = .ok (.iand, 1) := by decide +kernel
theorem dX9_feed_58 : decode cX9_feed 58 = .ok (.invokevirtual 101, 3) := by decide +kernel
theorem dX9_feed_61 : decode cX9_feed 61 = .ok (.iinc 4 (-1), 3) := by decide +kernel
theorem dX9_feed_64 : decode cX9_feed 64 = .ok (.goto (-27), 3) := by decide +kernel
theorem dX9_feed_67 : decode cX9_feed 67 = .ok (.aload_n 0, 1) := by decide +kernel
theorem dX9_feed_68 : decode cX9_feed 68 = .ok (.getfield 10, 3) := by decide +kernel
theorem dX9_feed_71 : decode cX9_feed 71 = .ok (.invokevirtual 96, 3) := by decide +kernel
