theorem dX10_bare_5 : decode cX10_bare 5 = .ok (.aload_n 0, 1) := by decide +kernel
theorem dX10_bare_6 : decode cX10_bare 6 = .ok (.iconst 0, 1) := by decide +kernel
theorem dX10_bare_7 : decode cX10_bare 7 = .ok (.putfield 137, 3) := by decide +kernel
theorem dX10_bare_10 : decode cX10_bare 10 = .ok (.iconst 0, 1) := by decide +kernel
theorem dX10_bare_11 : decode cX10_bare 11 = .ok (.istore_n 1, 1) := by decide +kernel
theorem dX10_bare_12 : decode cX10_bare 12 = .ok (.iload_n 1, 1) := by decide +kernel
theorem dX10_bare_13 : decode cX10_bare 13 = .ok (.bipush 9, 2) := by decide +kernel
theorem dX10_bare_15 : decode cX10_bare 15 = .ok (.if_icmp .ge 19, 3) := by decide +kernel
theorem dX10_bare_18 : decode cX10_bare 18 = .ok (.aload_n 0, 1) := by decide +kernel
theorem dX10_bare_19 : decode cX10_bare 19 = .ok (.getfield 36, 3) := by decide +kernel
theorem dX10_bare_22 : decode cX10_bare 22 = .ok (.iload_n 1, 1) := by decide +kernel
theorem dX10_bare_23 : decode cX10_bare 23 = .ok (.iload_n 1, 1) := by decide +kernel
theorem dX10_bare_24 : decode cX10_bare 24 = .ok (.invokestatic 140, 3) := by decide +kernel
theorem dX10_bare_27 : decode cX10_bare 27 = .ok (.iastore, 1) := by decide +kernel
theorem dX10_bare_28 : decode cX10_bare 28 = .ok (.iinc 1 1, 3) := by decide +kernel
theorem dX10_bare_31 : decode cX10_bare 31 = .ok (.goto (-19), 3) := by decide +kernel
theorem dX10_bare_34 : decode cX10_bare 34 = .ok (.iconst 0, 1) := by decide +kernel
theorem dX10_bare_35 : decode cX10_bare 35 = .ok (.istore_n 1, 1) := by decide +kernel
theorem dX10_bare_36 : decode cX10_bare 36 = .ok (.iload_n 1, 1) := by decide +kernel
theorem dX10_bare_37 : decode cX10_bare 37 = .ok (.bipush 24, 2) := by decide +kernel
theorem dX10_bare_39 : decode cX10_bare 39 = .ok (.if_icmp .ge 25, 3) := by decide +kernel
theorem dX10_bare_42 : decode cX10_bare 42 = .ok (.aload_n 0, 1) := by decide +kernel
theorem dX10_bare_43 : decode cX10_bare 43 = .ok (.getfield 39, 3) := by decide +kernel
theorem dX10_bare_46 : decode cX10_bare 46 = .ok (.iload_n 1, 1) := by decide +kernel
theorem dX10_bare_47 : decode cX10_bare 47 = .ok (.sipush 200, 3) := by decide +kernel
theorem dX10_bare_50 : decode cX10_bare 50 = .ok (.iastore, 1) := by decide +kernel
theorem dX10_bare_51 : decode cX10_bare 51 = .ok (.aload_n 0, 1) := by decide +kernel
theorem dX10_bare_52 : decode cX10_bare 52 = .ok (.getfield 42, 3) := by decide +kernel
theorem dX10_bare_55 : decode cX10_bare 55 = .ok (.iload_n 1, 1) := by decide +kernel
theorem dX10_bare_56 : decode cX10_bare 56 = .ok (.iconst 0, 1) := by decide +kernel
theorem dX10_bare_57 : decode cX10_bare 57 = .ok (.bastore, 1) := by decide +kernel
theorem dX10_bare_58 : decode cX10_bare 58 = .ok (.iinc 1 1, 3) := by decide +kernel
theorem dX10_bare_61 : decode cX10_bare 61 = .ok (.goto (-25), 3) := by decide +kernel
theorem dX10_bare_64 : decode cX10_bare 64 = .ok (.iconst 0, 1) := by decide +kernel
theorem dX10_bare_65 : decode cX10_bare 65 = .ok (.istore_n 1, 1) := by decide +kernel
theorem dX10_bare_66 : decode cX10_bare 66 = .ok (.iload_n 1, 1) := by decide +kernel
theorem dX10_bare_67 : decode cX10_bare 67 = .ok (.bipush 12, 2) := by decide +kernel
theorem dX10_bare_69 : decode cX10_bare 69 = .ok (.if_icmp .ge 16, 3) := by decide +kernel
theorem dX10_bare_72 : decode cX10_bare 72 = .ok (.aload_n 0, 1) := by decide +kernel
theorem dX10_bare_73 : decode cX10_bare 73 = .ok (.getfield 45, 3) := by decide +kernel
theorem dX10_bare_76 : decode cX10_bare 76 = .ok (.iload_n 1, 1) := by decide +kernel
theorem dX10_bare_77 : decode cX10_bare 77 = .ok (.iconst 0, 1) := by decide +kernel
theorem dX10_bare_78 : decode cX10_bare 78 = .ok (.iastore, 1) := by decide +kernel
theorem dX10_bare_79 : decode cX10_bare 79 = .ok (.iinc 1 1, 3) := by decide +kernel
theorem dX10_bare_82 : decode cX10_bare 82 = .ok (.goto (-16), 3) := by decide +kernel
theorem dX10_bare_85 : decode cX10_bare 85 = .ok (.return_, 1) := by decide +kernel
theorem dX10_untold_0 : decode cX10_untold 0 = .ok (.iload_n 0, 1) := by decide +kernel
theorem dX10_untold_1 : decode cX10_untold 1 = .ok (.tableswitch 76 0 7 #[47, 51, 55, 59, 62, 65, 68, 72], 47) := by decide +kernel
theorem dX10_untold_48 : decode cX10_untold 48 = .ok (.sipush 660, 3) := by decide +kernel
theorem dX10_untold_51 : decode cX10_untold 51 = .ok (.ireturn, 1) := by decide +kernel
theorem dX10_untold_52 : decode cX10_untold 52 = .ok (.sipush 450, 3) := by decide +kernel
theorem dX10_untold_55 : decode cX10_untold 55 = .ok (.ireturn, 1) := by decide +kernel
theorem dX10_untold_56 : decode cX10_untold 56 = .ok (.sipush 300, 3) := by decide +kernel
theorem dX10_untold_59 : decode cX10_untold 59 = .ok (.ireturn, 1) := by decide +kernel
theorem dX10_untold_60 : decode cX10_untold 60 = .ok (.bipush 10, 2) := by decide +kernel
theorem dX10_untold_62 : decode cX10_untold 62 = .ok (.ireturn, 1) := by decide +kernel
theorem dX10_untold_63 : decode cX10_untold 63 = .ok (.bipush 40, 2) := by decide +kernel
theorem dX10_untold_65 : decode cX10_untold 65 = .ok (.ireturn, 1) := by decide +kernel
theorem dX10_untold_66 : decode cX10_untold 66 = .ok (.bipush 100, 2) := by decide +kernel
theorem dX10_untold_68 : decode cX10_untold 68 = .ok (.ireturn, 1) := by decide +kernel
theorem dX10_untold_69 : decode cX10_untold 69 = .ok (.sipush 400, 3) := by decide +kernel
theorem dX10_untold_72 : decode cX10_untold 72 = .ok (.ireturn, 1) := by decide +kernel
theorem dX10_untold_73 : decode cX10_untold 73 = .ok (.sipush 150, 3) := by decide +kernel
theorem dX10_untold_76 : decode cX10_untold 76 = .ok (.ireturn, 1) := by decide +kernel
theorem dX10_untold_77 : decode cX10_untold 77 = .ok (.bipush 16, 2) := by decide +kernel
theorem dX10_untold_79 : decode cX10_untold 79 = .ok (.ireturn, 1) := by decide +kernel
theorem dX10_take_0 : decode cX10_take 0 = .ok (.aload_n 0, 1) := by decide +kernel
theorem dX10_take_1 : decode cX10_take 1 = .ok (.iload_n 2, 1) := by decide +kernel
theorem dX10_take_2 : decode cX10_take 2 = .ok (.iload_n 3, 1) := by decide +kernel
theorem dX10_take_3 : decode cX10_take 3 = .ok (.invokevirtual 144, 3) := by decide +kernel
theorem dX10_take_6 : decode cX10_take 6 = .ok (.istore 4, 2) := by decide +kernel
theorem dX10_take_8 : decode cX10_take 8 = .ok (.aload_n 0, 1) := by decide +kernel
theorem dX10_take_9 : decode cX10_take 9 = .ok (.getfield 36, 3) := by decide +kernel
theorem dX10_take_12 : decode cX10_take 12 = .ok (.iload_n 1, 1) := by decide +kernel
theorem dX10_take_13 : decode cX10_take 13 = .ok (.aload_n 0, 1) := by decide +kernel
theorem dX10_take_14 : decode cX10_take 14 = .ok (.getfield 131, 3) := by decide +kernel
theorem dX10_take_17 : decode cX10_take 17 = .ok (.iastore, 1) := by decide +kernel
theorem dX10_take_18 : decode cX10_take 18 = .ok (.iload 4, 2) := by decide +kernel
theorem dX10_take_20 : decode cX10_take 20 = .ok (.ireturn, 1) := by decide +kernel
theorem dX10_takeRope_0 : decode cX10_takeRope 0 = .ok (.aload_n 0, 1) := by decide +kernel
theorem dX10_takeRope_1 : decode cX10_takeRope 1 = .ok (.iconst 1, 1) := by decide +kernel
theorem dX10_takeRope_2 : decode cX10_takeRope 2 = .ok (.bipush 100, 2) := by decide +kernel
theorem dX10_takeRope_4 : decode cX10_takeRope 4 = .ok (.sipush 900, 3) := by decide +kernel
theorem dX10_takeRope_7 : decode cX10_takeRope 7 = .ok (.invokevirtual 147, 3) := by decide +kernel
theorem dX10_takeRope_10 : decode cX10_takeRope 10 = .ok (.istore_n 1, 1) := by decide +kernel
theorem dX10_takeRope_11 : decode cX10_takeRope 11 = .ok (.iload_n 1, 1) := by decide +kernel
theorem dX10_takeRope_12 : decode cX10_takeRope 12 = .ok (.ifCond .le 7, 3) := by decide +kernel
theorem dX10_takeRope_15 : decode cX10_takeRope 15 = .ok (.iload_n 1, 1) := by decide +kernel
theorem dX10_takeRope_16 : decode cX10_takeRope 16 = .ok (.goto 13, 3) := by decide +kernel
theorem dX10_takeRope_19 : decode cX10_takeRope 19 = .ok (.aload_n 0, 1) := by decide +kernel
theorem dX10_takeRope_20 : decode cX10_takeRope 20 = .ok (.iconst 2, 1) := by decide +kernel
theorem dX10_takeRope_21 : decode cX10_takeRope 21 = .ok (.bipush 20, 2) := by decide +kernel
theorem dX10_takeRope_23 : decode cX10_takeRope 23 = .ok (.sipush 999, 3) := by decide +kernel
theorem dX10_takeRope_26 : decode cX10_takeRope 26 = .ok (.invokevirtual 147, 3) := by decide +kernel
theorem dX10_takeRope_29 : decode cX10_takeRope 29 = .ok (.istore_n 1, 1) := by decide +kernel
theorem dX10_takeRope_30 : decode cX10_takeRope 30 = .ok (.iload_n 1, 1) := by decide +kernel
theorem dX10_takeRope_31 : decode cX10_takeRope 31 = .ok (.ifCond .le 7, 3) := by decide +kernel
theorem dX10_takeRope_34 : decode cX10_takeRope 34 = .ok (.iload_n 1, 1) := by decide +kernel
theorem dX10_takeRope_35 : decode cX10_takeRope 35 = .ok (.goto 11, 3) := by decide +kernel
theorem dX10_takeRope_38 : decode cX10_takeRope 38 = .ok (.aload_n 0, 1) := by decide +kernel
theorem dX10_takeRope_39 : decode cX10_takeRope 39 = .ok (.iconst 3, 1) := by decide +kernel
theorem dX10_takeRope_40 : decode cX10_takeRope 40 = .ok (.iconst 0, 1) := by decide +kernel
theorem dX10_takeRope_41 : decode cX10_takeRope 41 = .ok (.bipush 99, 2) := by decide +kernel
theorem dX10_takeRope_43 : decode cX10_takeRope 43 = .ok (.invokevirtual 147, 3) := by decide +kernel
theorem dX10_takeRope_46 : decode cX10_takeRope 46 = .ok (.ireturn, 1) := by decide +kernel
theorem dX10_takeStart_0 : decode cX10_takeStart 0 = .ok (.aload_n 0, 1) := by decide +kernel
theorem dX10_takeStart_1 : decode cX10_takeStart 1 = .ok (.iconst 4, 1) := by decide +kernel
theorem dX10_takeStart_2 : decode cX10_takeStart 2 = .ok (.iconst 0, 1) := by decide +kernel
theorem dX10_takeStart_3 : decode cX10_takeStart 3 = .ok (.bipush 80, 2) := by decide +kernel
theorem dX10_takeStart_5 : decode cX10_takeStart 5 = .ok (.invokevirtual 147, 3) := by decide +kernel
theorem dX10_takeStart_8 : decode cX10_takeStart 8 = .ok (.istore_n 1, 1) := by decide +kernel
theorem dX10_takeStart_9 : decode cX10_takeStart 9 = .ok (.iload_n 1, 1) := by decide +kernel
theorem dX10_takeStart_10 : decode cX10_takeStart 10 = .ok (.ifCond .le 7, 3) := by decide +kernel
theorem dX10_takeStart_13 : decode cX10_takeStart 13 = .ok (.iload_n 1, 1) := by decide +kernel
theorem dX10_takeStart_14 : decode cX10_takeStart 14 = .ok (.goto 12, 3) := by decide +kernel
theorem dX10_takeStart_17 : decode cX10_takeStart 17 = .ok (.aload_n 0, 1) := by decide +kernel
theorem dX10_takeStart_18 : decode cX10_takeStart 18 = .ok (.iconst 5, 1) := by decide +kernel
theorem dX10_takeStart_19 : decode cX10_takeStart 19 = .ok (.iconst 0, 1) := by decide +kernel
theorem dX10_takeStart_20 : decode cX10_takeStart 20 = .ok (.sipush 600, 3) := by decide +kernel
theorem dX10_takeStart_23 : decode cX10_takeStart 23 = .ok (.invokevirtual 147, 3) := by decide +kernel
theorem dX10_takeStart_26 : decode cX10_takeStart 26 = .ok (.ireturn, 1) := by decide +kernel
theorem dX10_takeRow_0 : decode cX10_takeRow 0 = .ok (.iconst 0, 1) := by decide +kernel
theorem dX10_takeRow_1 : decode cX10_takeRow 1 = .ok (.istore 4, 2) := by decide +kernel
theorem dX10_takeRow_3 : decode cX10_takeRow 3 = .ok (.iconst 1, 1) := by decide +kernel
theorem dX10_takeRow_4 : decode cX10_takeRow 4 = .ok (.istore 5, 2) := by decide +kernel
theorem dX10_takeRow_6 : decode cX10_takeRow 6 = .ok (.iload 5, 2) := by decide +kernel
theorem dX10_takeRow_8 : decode cX10_takeRow 8 = .ok (.ifCond .eq 66, 3) := by decide +kernel
theorem dX10_takeRow_11 : decode cX10_takeRow 11 = .ok (.aload_n 0, 1) := by decide +kernel
theorem dX10_takeRow_12 : decode cX10_takeRow 12 = .ok (.iconst 0, 1) := by decide +kernel
theorem dX10_takeRow_13 : decode cX10_takeRow 13 = .ok (.iload_n 3, 1) := by decide +kernel
theorem dX10_takeRow_14 : decode cX10_takeRow 14 = .ok (.invokevirtual 144, 3) := by decide +kernel
theorem dX10_takeRow_17 : decode cX10_takeRow 17 = .ok (.istore 6, 2) := by decide +kernel
theorem dX10_takeRow_19 : decode cX10_takeRow 19 = .ok (.iload 6, 2) := by decide +kernel
theorem dX10_takeRow_21 : decode cX10_takeRow 21 = .ok (.ifCond .ne 21, 3) := by decide +kernel
theorem dX10_takeRow_24 : decode cX10_takeRow 24 = .ok (.iload 4, 2) := by decide +kernel
theorem dX10_takeRow_26 : decode cX10_takeRow 26 = .ok (.iload_n 2, 1) := by decide +kernel
theorem dX10_takeRow_27 : decode cX10_takeRow 27 = .ok (.if_icmp .ne 15, 3) := by decide +kernel
theorem dX10_takeRow_30 : decode cX10_takeRow 30 = .ok (.aload_n 0, 1) := by decide +kernel
theorem dX10_takeRow_31 : decode cX10_takeRow 31 = .ok (.iconst 4, 1) := by decide +kernel
theorem dX10_takeRow_32 : decode cX10_takeRow 32 = .ok (.aload_n 0, 1) := by decide +kernel
theorem dX10_takeRow_33 : decode cX10_takeRow 33 = .ok (.getfield 128, 3) := by decide +kernel
theorem dX10_takeRow_36 : decode cX10_takeRow 36 = .ok (.invokevirtual 124, 3) := by decide +kernel
theorem dX10_takeRow_39 : decode cX10_takeRow 39 = .ok (.goto 5, 3) := by decide +kernel
theorem dX10_takeRow_42 : decode cX10_takeRow 42 = .ok (.iload 6, 2) := by decide +kernel
theorem dX10_takeRow_44 : decode cX10_takeRow 44 = .ok (.istore 6, 2) := by decide +kernel
theorem dX10_takeRow_46 : decode cX10_takeRow 46 = .ok (.iload 6, 2) := by decide +kernel
theorem dX10_takeRow_48 : decode cX10_takeRow 48 = .ok (.ifCond .le 6, 3) := by decide +kernel
theorem dX10_takeRow_51 : decode cX10_takeRow 51 = .ok (.iload 6, 2) := by decide +kernel
theorem dX10_takeRow_53 : decode cX10_takeRow 53 = .ok (.ireturn, 1) := by decide +kernel
theorem dX10_takeRow_54 : decode cX10_takeRow 54 = .ok (.aload_n 1, 1) := by decide +kernel
theorem dX10_takeRow_55 : decode cX10_takeRow 55 = .ok (.iload 4, 2) := by decide +kernel
theorem dX10_takeRow_57 : decode cX10_takeRow 57 = .ok (.aload_n 0, 1) := by decide +kernel
theorem dX10_takeRow_58 : decode cX10_takeRow 58 = .ok (.getfield 131, 3) := by decide +kernel
theorem dX10_takeRow_61 : decode cX10_takeRow 61 = .ok (.iastore, 1) := by decide +kernel
theorem dX10_takeRow_62 : decode cX10_takeRow 62 = .ok (.iinc 4 1, 3) := by decide +kernel
theorem dX10_takeRow_65 : decode cX10_takeRow 65 = .ok (.aload_n 0, 1) := by decide +kernel
theorem dX10_takeRow_66 : decode cX10_takeRow 66 = .ok (.invokevirtual 151, 3) := by decide +kernel
theorem dX10_takeRow_69 : decode cX10_takeRow 69 = .ok (.istore 5, 2) := by decide +kernel
theorem dX10_takeRow_71 : decode cX10_takeRow 71 = .ok (.goto (-65), 3) := by decide +kernel
theorem dX10_takeRow_74 : decode cX10_takeRow 74 = .ok (.iconst 0, 1) := by decide +kernel
theorem dX10_takeRow_75 : decode cX10_takeRow 75 = .ok (.ireturn, 1) := by decide +kernel
theorem dX10_takeStones_0 : decode cX10_takeStones 0 = .ok (.iconst 1, 1) := by decide +kernel
theorem dX10_takeStones_1 : decode cX10_takeStones 1 = .ok (.istore_n 1, 1) := by decide +kernel
theorem dX10_takeStones_2 : decode cX10_takeStones 2 = .ok (.iload_n 1, 1) := by decide +kernel
theorem dX10_takeStones_3 : decode cX10_takeStones 3 = .ok (.ifCond .eq 65, 3) := by decide +kernel
theorem dX10_takeStones_6 : decode cX10_takeStones 6 = .ok (.aload_n 0, 1) := by decide +kernel
theorem dX10_takeStones_7 : decode cX10_takeStones 7 = .ok (.iconst 0, 1) := by decide +kernel
theorem dX10_takeStones_8 : decode cX10_takeStones 8 = .ok (.bipush 23, 2) := by decide +kernel
theorem dX10_takeStones_10 : decode cX10_takeStones 10 = .ok (.invokevirtual 144, 3) := by decide +kernel
theorem dX10_takeStones_13 : decode cX10_takeStones 13 = .ok (.istore_n 2, 1) := by decide +kernel
theorem dX10_takeStones_14 : decode cX10_takeStones 14 = .ok (.iload_n 2, 1) := by decide +kernel
theorem dX10_takeStones_15 : decode cX10_takeStones 15 = .ok (.ifCond .ne 27, 3) := by decide +kernel
theorem dX10_takeStones_18 : decode cX10_takeStones 18 = .ok (.aload_n 0, 1) := by decide +kernel
theorem dX10_takeStones_19 : decode cX10_takeStones 19 = .ok (.getfield 42, 3) := by decide +kernel
theorem dX10_takeStones_22 : decode cX10_takeStones 22 = .ok (.aload_n 0, 1) := by decide +kernel
theorem dX10_takeStones_23 : decode cX10_takeStones 23 = .ok (.getfield 131, 3) := by decide +kernel
theorem dX10_takeStones_26 : decode cX10_takeStones 26 = .ok (.baload, 1) := by decide +kernel
theorem dX10_takeStones_27 : decode cX10_takeStones 27 = .ok (.ifCond .eq 15, 3) := by decide +kernel
theorem dX10_takeStones_30 : decode cX10_takeStones 30 = .ok (.aload_n 0, 1) := by decide +kernel
theorem dX10_takeStones_31 : decode cX10_takeStones 31 = .ok (.iconst 3, 1) := by decide +kernel
theorem dX10_takeStones_32 : decode cX10_takeStones 32 = .ok (.aload_n 0, 1) := by decide +kernel
theorem dX10_takeStones_33 : decode cX10_takeStones 33 = .ok (.getfield 128, 3) := by decide +kernel
theorem dX10_takeStones_36 : decode cX10_takeStones 36 = .ok (.invokevirtual 124, 3) := by decide +kernel
theorem dX10_takeStones_39 : decode cX10_takeStones 39 = .ok (.goto 4, 3) := by decide +kernel
theorem dX10_takeStones_42 : decode cX10_takeStones 42 = .ok (.iload_n 2, 1) := by decide +kernel
theorem dX10_takeStones_43 : decode cX10_takeStones 43 = .ok (.istore_n 2, 1) := by decide +kernel
theorem dX10_takeStones_44 : decode cX10_takeStones 44 = .ok (.iload_n 2, 1) := by decide +kernel
theorem dX10_takeStones_45 : decode cX10_takeStones 45 = .ok (.ifCond .le 5, 3) := by decide +kernel
theorem dX10_takeStones_48 : decode cX10_takeStones 48 = .ok (.iload_n 2, 1) := by decide +kernel
theorem dX10_takeStones_49 : decode cX10_takeStones 49 = .ok (.ireturn, 1) := by decide +kernel
theorem dX10_takeStones_50 : decode cX10_takeStones 50 = .ok (.aload_n 0, 1) := by decide +kernel
theorem dX10_takeStones_51 : decode cX10_takeStones 51 = .ok (.getfield 42, 3) := by decide +kernel
theorem dX10_takeStones_54 : decode cX10_takeStones 54 = .ok (.aload_n 0, 1) := by decide +kernel
theorem dX10_takeStones_55 : decode cX10_takeStones 55 = .ok (.getfield 131, 3) := by decide +kernel
theorem dX10_takeStones_58 : decode cX10_takeStones 58 = .ok (.iconst 1, 1) := by decide +kernel
theorem dX10_takeStones_59 : decode cX10_takeStones 59 = .ok (.bastore, 1) := by decide +kernel
theorem dX10_takeStones_60 : decode cX10_takeStones 60 = .ok (.aload_n 0, 1) := by decide +kernel
theorem dX10_takeStones_61 : decode cX10_takeStones 61 = .ok (.invokevirtual 151, 3) := by decide +kernel
theorem dX10_takeStones_64 : decode cX10_takeStones 64 = .ok (.istore_n 1, 1) := by decide +kernel
theorem dX10_takeStones_65 : decode cX10_takeStones 65 = .ok (.goto (-63), 3) := by decide +kernel
theorem dX10_takeStones_68 : decode cX10_takeStones 68 = .ok (.iconst 0, 1) := by decide +kernel
theorem dX10_takeStones_69 : decode cX10_takeStones 69 = .ok (.ireturn, 1) := by decide +kernel
theorem dX10_clauseOf_0 : decode cX10_clauseOf 0 = .ok (.aload_n 0, 1) := by decide +kernel
theorem dX10_clauseOf_1 : decode cX10_clauseOf 1 = .ok (.getfield 101, 3) := by decide +kernel
theorem dX10_clauseOf_4 : decode cX10_clauseOf 4 = .ok (.bipush 98, 2) := by decide +kernel
theorem dX10_clauseOf_6 : decode cX10_clauseOf 6 = .ok (.bipush 111, 2) := by decide +kernel
theorem dX10_clauseOf_8 : decode cX10_clauseOf 8 = .ok (.bipush 117, 2) := by decide +kernel
theorem dX10_clauseOf_10 : decode cX10_clauseOf 10 = .ok (.bipush 103, 2) := by decide +kernel
theorem dX10_clauseOf_12 : decode cX10_clauseOf 12 = .ok (.invokestatic 155, 3) := by decide +kernel
theorem dX10_clauseOf_15 : decode cX10_clauseOf 15 = .ok (.bipush 104, 2) := by decide +kernel
theorem dX10_clauseOf_17 : decode cX10_clauseOf 17 = .ok (.invokestatic 159, 3) := by decide +kernel
theorem dX10_clauseOf_20 : decode cX10_clauseOf 20 = .ok (.lcmp, 1) := by decide +kernel
theorem dX10_clauseOf_21 : decode cX10_clauseOf 21 = .ok (.ifCond .ne 7, 3) := by decide +kernel
theorem dX10_clauseOf_24 : decode cX10_clauseOf 24 = .ok (.iconst 0, 1) := by decide +kernel
theorem dX10_clauseOf_25 : decode cX10_clauseOf 25 = .ok (.goto 83, 3) := by decide +kernel
theorem dX10_clauseOf_28 : decode cX10_clauseOf 28 = .ok (.aload_n 0, 1) := by decide +kernel
theorem dX10_clauseOf_29 : decode cX10_clauseOf 29 = .ok (.getfield 101, 3) := by decide +kernel
theorem dX10_clauseOf_32 : decode cX10_clauseOf 32 = .ok (.bipush 114, 2) := by decide +kernel
theorem dX10_clauseOf_34 : decode cX10_clauseOf 34 = .ok (.bipush 111, 2) := by decide +kernel
theorem dX10_clauseOf_36 : decode cX10_clauseOf 36 = .ok (.bipush 112, 2) := by decide +kernel
theorem dX10_clauseOf_38 : decode cX10_clauseOf 38 = .ok (.bipush 101, 2) := by decide +kernel
theorem dX10_clauseOf_40 : decode cX10_clauseOf 40 = .ok (.invokestatic 155, 3) := by decide +kernel
theorem dX10_clauseOf_43 : decode cX10_clauseOf 43 = .ok (.lcmp, 1) := by decide +kernel
theorem dX10_clauseOf_44 : decode cX10_clauseOf 44 = .ok (.ifCond .ne 7, 3) := by decide +kernel
theorem dX10_clauseOf_47 : decode cX10_clauseOf 47 = .ok (.iconst 1, 1) := by decide +kernel
theorem dX10_clauseOf_48 : decode cX10_clauseOf 48 = .ok (.goto 60, 3) := by decide +kernel
theorem dX10_clauseOf_51 : decode cX10_clauseOf 51 = .ok (.aload_n 0, 1) := by decide +kernel
theorem dX10_clauseOf_52 : decode cX10_clauseOf 52 = .ok (.getfield 101, 3) := by decide +kernel
theorem dX10_clauseOf_55 : decode cX10_clauseOf 55 = .ok (.bipush 115, 2) := by decide +kernel
theorem dX10_clauseOf_57 : decode cX10_clauseOf 57 = .ok (.bipush 116, 2) := by decide +kernel
theorem dX10_clauseOf_59 : decode cX10_clauseOf 59 = .ok (.bipush 97, 2) := by decide +kernel
theorem dX10_clauseOf_61 : decode cX10_clauseOf 61 = .ok (.bipush 114, 2) := by decide +kernel
theorem dX10_clauseOf_63 : decode cX10_clauseOf 63 = .ok (.invokestatic 155, 3) := by decide +kernel
theorem dX10_clauseOf_66 : decode cX10_clauseOf 66 = .ok (.bipush 116, 2) := by decide +kernel
theorem dX10_clauseOf_68 : decode cX10_clauseOf 68 = .ok (.invokestatic 159, 3) := by decide +kernel
theorem dX10_clauseOf_71 : decode cX10_clauseOf 71 = .ok (.lcmp, 1) := by decide +kernel
theorem dX10_clauseOf_72 : decode cX10_clauseOf 72 = .ok (.ifCond .ne 7, 3) := by decide +kernel
theorem dX10_clauseOf_75 : decode cX10_clauseOf 75 = .ok (.iconst 2, 1) := by decide +kernel
theorem dX10_clauseOf_76 : decode cX10_clauseOf 76 = .ok (.goto 32, 3) := by decide +kernel
theorem dX10_clauseOf_79 : decode cX10_clauseOf 79 = .ok (.aload_n 0, 1) := by decide +kernel
theorem dX10_clauseOf_80 : decode cX10_clauseOf 80 = .ok (.getfield 101, 3) := by decide +kernel
theorem dX10_clauseOf_83 : decode cX10_clauseOf 83 = .ok (.bipush 116, 2) := by decide +kernel
theorem dX10_clauseOf_85 : decode cX10_clauseOf 85 = .ok (.bipush 114, 2) := by decide +kernel
theorem dX10_clauseOf_87 : decode cX10_clauseOf 87 = .ok (.bipush 117, 2) := by decide +kernel
theorem dX10_clauseOf_89 : decode cX10_clauseOf 89 = .ok (.bipush 110, 2) := by decide +kernel
theorem dX10_clauseOf_91 : decode cX10_clauseOf 91 = .ok (.invokestatic 155, 3) := by decide +kernel
theorem dX10_clauseOf_94 : decode cX10_clauseOf 94 = .ok (.bipush 107, 2) := by decide +kernel
theorem dX10_clauseOf_96 : decode cX10_clauseOf 96 = .ok (.invokestatic 159, 3) := by decide +kernel
theorem dX10_clauseOf_99 : decode cX10_clauseOf 99 = .ok (.lcmp, 1) := by decide +kernel
theorem dX10_clauseOf_100 : decode cX10_clauseOf 100 = .ok (.ifCond .ne 7, 3) := by decide +kernel
theorem dX10_clauseOf_103 : decode cX10_clauseOf 103 = .ok (.iconst 3, 1) := by decide +kernel
theorem dX10_clauseOf_104 : decode cX10_clauseOf 104 = .ok (.goto 4, 3) := by decide +kernel
theorem dX10_clauseOf_107 : decode cX10_clauseOf 107 = .ok (.iconst (-1), 1) := by decide +kernel
theorem dX10_clauseOf_108 : decode cX10_clauseOf 108 = .ok (.istore_n 1, 1) := by decide +kernel
theorem dX10_clauseOf_109 : decode cX10_clauseOf 109 = .ok (.aload_n 0, 1) := by decide +kernel
theorem dX10_clauseOf_110 : decode cX10_clauseOf 110 = .ok (.getfield 101, 3) := by decide +kernel
theorem dX10_clauseOf_113 : decode cX10_clauseOf 113 = .ok (.bipush 110, 2) := by decide +kernel
theorem dX10_clauseOf_115 : decode cX10_clauseOf 115 = .ok (.bipush 101, 2) := by decide +kernel
theorem dX10_clauseOf_117 : decode cX10_clauseOf 117 = .ok (.bipush 101, 2) := by decide +kernel
theorem dX10_clauseOf_119 : decode cX10_clauseOf 119 = .ok (.bipush 100, 2) := by decide +kernel
theorem dX10_clauseOf_121 : decode cX10_clauseOf 121 = .ok (.invokestatic 155, 3) := by decide +kernel
theorem dX10_clauseOf_124 : decode cX10_clauseOf 124 = .ok (.lcmp, 1) := by decide +kernel
theorem dX10_clauseOf_125 : decode cX10_clauseOf 125 = .ok (.ifCond .ne 7, 3) := by decide +kernel
theorem dX10_clauseOf_128 : decode cX10_clauseOf 128 = .ok (.iconst 4, 1) := by decide +kernel
theorem dX10_clauseOf_129 : decode cX10_clauseOf 129 = .ok (.goto 90, 3) := by decide +kernel
theorem dX10_clauseOf_132 : decode cX10_clauseOf 132 = .ok (.aload_n 0, 1) := by decide +kernel
theorem dX10_clauseOf_133 : decode cX10_clauseOf 133 = .ok (.getfield 101, 3) := by decide +kernel
theorem dX10_clauseOf_136 : decode cX10_clauseOf 136 = .ok (.bipush 119, 2) := by decide +kernel
theorem dX10_clauseOf_138 : decode cX10_clauseOf 138 = .ok (.bipush 97, 2) := by decide +kernel
theorem dX10_clauseOf_140 : decode cX10_clauseOf 140 = .ok (.bipush 116, 2) := by decide +kernel
theorem dX10_clauseOf_142 : decode cX10_clauseOf 142 = .ok (.bipush 101, 2) := by decide +kernel
theorem dX10_clauseOf_144 : decode cX10_clauseOf 144 = .ok (.invokestatic 155, 3) := by decide +kernel
theorem dX10_clauseOf_147 : decode cX10_clauseOf 147 = .ok (.bipush 114, 2) := by decide +kernel
theorem dX10_clauseOf_149 : decode cX10_clauseOf 149 = .ok (.invokestatic 159, 3) := by decide +kernel
theorem dX10_clauseOf_152 : decode cX10_clauseOf 152 = .ok (.lcmp, 1) := by decide +kernel
theorem dX10_clauseOf_153 : decode cX10_clauseOf 153 = .ok (.ifCond .ne 7, 3) := by decide +kernel
theorem dX10_clauseOf_156 : decode cX10_clauseOf 156 = .ok (.iconst 5, 1) := by decide +kernel
theorem dX10_clauseOf_157 : decode cX10_clauseOf 157 = .ok (.goto 62, 3) := by decide +kernel
theorem dX10_clauseOf_160 : decode cX10_clauseOf 160 = .ok (.aload_n 0, 1) := by decide +kernel
theorem dX10_clauseOf_161 : decode cX10_clauseOf 161 = .ok (.getfield 101, 3) := by decide +kernel
theorem dX10_clauseOf_164 : decode cX10_clauseOf 164 = .ok (.bipush 115, 2) := by decide +kernel
theorem dX10_clauseOf_166 : decode cX10_clauseOf 166 = .ok (.bipush 116, 2) := by decide +kernel
theorem dX10_clauseOf_168 : decode cX10_clauseOf 168 = .ok (.bipush 111, 2) := by decide +kernel
theorem dX10_clauseOf_170 : decode cX10_clauseOf 170 = .ok (.bipush 110, 2) := by decide +kernel
theorem dX10_clauseOf_172 : decode cX10_clauseOf 172 = .ok (.invokestatic 155, 3) := by decide +kernel
theorem dX10_clauseOf_175 : decode cX10_clauseOf 175 = .ok (.bipush 101, 2) := by decide +kernel
theorem dX10_clauseOf_177 : decode cX10_clauseOf 177 = .ok (.invokestatic 159, 3) := by decide +kernel
theorem dX10_clauseOf_180 : decode cX10_clauseOf 180 = .ok (.bipush 115, 2) := by decide +kernel
theorem dX10_clauseOf_182 : decode cX10_clauseOf 182 = .ok (.invokestatic 159, 3) := by decide +kernel
theorem dX10_clauseOf_185 : decode cX10_clauseOf 185 = .ok (.lcmp, 1) := by decide +kernel
theorem dX10_clauseOf_186 : decode cX10_clauseOf 186 = .ok (.ifCond .ne 8, 3) := by decide +kernel
theorem dX10_clauseOf_189 : decode cX10_clauseOf 189 = .ok (.bipush 6, 2) := by decide +kernel
theorem dX10_clauseOf_191 : decode cX10_clauseOf 191 = .ok (.goto 28, 3) := by decide +kernel
theorem dX10_clauseOf_194 : decode cX10_clauseOf 194 = .ok (.aload_n 0, 1) := by decide +kernel
theorem dX10_clauseOf_195 : decode cX10_clauseOf 195 = .ok (.getfield 101, 3) := by decide +kernel
theorem dX10_clauseOf_198 : decode cX10_clauseOf 198 = .ok (.bipush 115, 2) := by decide +kernel
theorem dX10_clauseOf_200 : decode cX10_clauseOf 200 = .ok (.bipush 97, 2) := by decide +kernel
theorem dX10_clauseOf_202 : decode cX10_clauseOf 202 = .ok (.bipush 110, 2) := by decide +kernel
theorem dX10_clauseOf_204 : decode cX10_clauseOf 204 = .ok (.bipush 100, 2) := by decide +kernel
theorem dX10_clauseOf_206 : decode cX10_clauseOf 206 = .ok (.invokestatic 155, 3) := by decide +kernel
theorem dX10_clauseOf_209 : decode cX10_clauseOf 209 = .ok (.lcmp, 1) := by decide +kernel
theorem dX10_clauseOf_210 : decode cX10_clauseOf 210 = .ok (.ifCond .ne 8, 3) := by decide +kernel
theorem dX10_clauseOf_213 : decode cX10_clauseOf 213 = .ok (.bipush 7, 2) := by decide +kernel
theorem dX10_clauseOf_215 : decode cX10_clauseOf 215 = .ok (.goto 4, 3) := by decide +kernel
theorem dX10_clauseOf_218 : decode cX10_clauseOf 218 = .ok (.iconst (-1), 1) := by decide +kernel
theorem dX10_clauseOf_219 : decode cX10_clauseOf 219 = .ok (.istore_n 2, 1) := by decide +kernel
theorem dX10_clauseOf_220 : decode cX10_clauseOf 220 = .ok (.iload_n 1, 1) := by decide +kernel
theorem dX10_clauseOf_221 : decode cX10_clauseOf 221 = .ok (.ifCond .lt 7, 3) := by decide +kernel
theorem dX10_clauseOf_224 : decode cX10_clauseOf 224 = .ok (.iload_n 1, 1) := by decide +kernel
theorem dX10_clauseOf_225 : decode cX10_clauseOf 225 = .ok (.goto 46, 3) := by decide +kernel
theorem dX10_clauseOf_228 : decode cX10_clauseOf 228 = .ok (.iload_n 2, 1) := by decide +kernel
theorem dX10_clauseOf_229 : decode cX10_clauseOf 229 = .ok (.ifCond .lt 7, 3) := by decide +kernel
theorem dX10_clauseOf_232 : decode cX10_clauseOf 232 = .ok (.iload_n 2, 1) := by decide +kernel
theorem dX10_clauseOf_233 : decode cX10_clauseOf 233 = .ok (.goto 38, 3) := by decide +kernel
theorem dX10_clauseOf_236 : decode cX10_clauseOf 236 = .ok (.aload_n 0, 1) := by decide +kernel
theorem dX10_clauseOf_237 : decode cX10_clauseOf 237 = .ok (.getfield 101, 3) := by decide +kernel
theorem dX10_clauseOf_240 : decode cX10_clauseOf 240 = .ok (.bipush 109, 2) := by decide +kernel
theorem dX10_clauseOf_242 : decode cX10_clauseOf 242 = .ok (.bipush 111, 2) := by decide +kernel
theorem dX10_clauseOf_244 : decode cX10_clauseOf 244 = .ok (.bipush 110, 2) := by decide +kernel
theorem dX10_clauseOf_246 : decode cX10_clauseOf 246 = .ok (.bipush 116, 2) := by decide +kernel
theorem dX10_clauseOf_248 : decode cX10_clauseOf 248 = .ok (.invokestatic 155, 3) := by decide +kernel
theorem dX10_clauseOf_251 : decode cX10_clauseOf 251 = .ok (.bipush 104, 2) := by decide +kernel
theorem dX10_clauseOf_253 : decode cX10_clauseOf 253 = .ok (.invokestatic 159, 3) := by decide +kernel
theorem dX10_clauseOf_256 : decode cX10_clauseOf 256 = .ok (.bipush 115, 2) := by decide +kernel
theorem dX10_clauseOf_258 : decode cX10_clauseOf 258 = .ok (.invokestatic 159, 3) := by decide +kernel
theorem dX10_clauseOf_261 : decode cX10_clauseOf 261 = .ok (.lcmp, 1) := by decide +kernel
theorem dX10_clauseOf_262 : decode cX10_clauseOf 262 = .ok (.ifCond .ne 8, 3) := by decide +kernel
theorem dX10_clauseOf_265 : decode cX10_clauseOf 265 = .ok (.bipush 8, 2) := by decide +kernel
theorem dX10_clauseOf_267 : decode cX10_clauseOf 267 = .ok (.goto 4, 3) := by decide +kernel
theorem dX10_clauseOf_270 : decode cX10_clauseOf 270 = .ok (.iconst (-1), 1) := by decide +kernel
theorem dX10_clauseOf_271 : decode cX10_clauseOf 271 = .ok (.ireturn, 1) := by decide +kernel
theorem dX10_takeClause_0 : decode cX10_takeClause 0 = .ok (.aload_n 0, 1) := by decide +kernel
theorem dX10_takeClause_1 : decode cX10_takeClause 1 = .ok (.invokevirtual 163, 3) := by decide +kernel
theorem dX10_takeClause_4 : decode cX10_takeClause 4 = .ok (.aload_n 0, 1) := by decide +kernel
theorem dX10_takeClause_5 : decode cX10_takeClause 5 = .ok (.invokevirtual 166, 3) := by decide +kernel
theorem dX10_takeClause_8 : decode cX10_takeClause 8 = .ok (.istore_n 1, 1) := by decide +kernel
theorem dX10_takeClause_9 : decode cX10_takeClause 9 = .ok (.iload_n 1, 1) := by decide +kernel
theorem dX10_takeClause_10 : decode cX10_takeClause 10 = .ok (.ifCond .lt 15, 3) := by decide +kernel
theorem dX10_takeClause_13 : decode cX10_takeClause 13 = .ok (.aload_n 0, 1) := by decide +kernel
theorem dX10_takeClause_14 : decode cX10_takeClause 14 = .ok (.getfield 134, 3) := by decide +kernel
theorem dX10_takeClause_17 : decode cX10_takeClause 17 = .ok (.iload_n 1, 1) := by decide +kernel
theorem dX10_takeClause_18 : decode cX10_takeClause 18 = .ok (.ishr, 1) := by decide +kernel
theorem dX10_takeClause_19 : decode cX10_takeClause 19 = .ok (.iconst 1, 1) := by decide +kernel
theorem dX10_takeClause_20 : decode cX10_takeClause 20 = .ok (.iand, 1) := by decide +kernel
theorem dX10_takeClause_21 : decode cX10_takeClause 21 = .ok (.iconst 1, 1) := by decide +kernel
theorem dX10_takeClause_22 : decode cX10_takeClause 22 = .ok (.if_icmp .ne 21, 3) := by decide +kernel
theorem dX10_takeClause_25 : decode cX10_takeClause 25 = .ok (.aload_n 0, 1) := by decide +kernel
theorem dX10_takeClause_26 : decode cX10_takeClause 26 = .ok (.iload_n 1, 1) := by decide +kernel
theorem dX10_takeClause_27 : decode cX10_takeClause 27 = .ok (.ifCond .ge 7, 3) := by decide +kernel
theorem dX10_takeClause_30 : decode cX10_takeClause 30 = .ok (.iconst 1, 1) := by decide +kernel
theorem dX10_takeClause_31 : decode cX10_takeClause 31 = .ok (.goto 4, 3) := by decide +kernel
theorem dX10_takeClause_34 : decode cX10_takeClause 34 = .ok (.iconst 3, 1) := by decide +kernel
theorem dX10_takeClause_35 : decode cX10_takeClause 35 = .ok (.aload_n 0, 1) := by decide +kernel
theorem dX10_takeClause_36 : decode cX10_takeClause 36 = .ok (.getfield 94, 3) := by decide +kernel
theorem dX10_takeClause_39 : decode cX10_takeClause 39 = .ok (.invokevirtual 124, 3) := by decide +kernel
theorem dX10_takeClause_42 : decode cX10_takeClause 42 = .ok (.ireturn, 1) := by decide +kernel
theorem dX10_takeClause_43 : decode cX10_takeClause 43 = .ok (.aload_n 0, 1) := by decide +kernel
theorem dX10_takeClause_44 : decode cX10_takeClause 44 = .ok (.dup, 1) := by decide +kernel
theorem dX10_takeClause_45 : decode cX10_takeClause 45 = .ok (.getfield 134, 3) := by decide +kernel
theorem dX10_takeClause_48 : decode cX10_takeClause 48 = .ok (.iconst 1, 1) := by decide +kernel
theorem dX10_takeClause_49 : decode cX10_takeClause 49 = .ok (.iload_n 1, 1) := by decide +kernel
theorem dX10_takeClause_50 : decode cX10_takeClause 50 = .ok (.ishl, 1) := by decide +kernel
theorem dX10_takeClause_51 : decode cX10_takeClause 51 = .ok (.ior, 1) := by decide +kernel
theorem dX10_takeClause_52 : decode cX10_takeClause 52 = .ok (.putfield 134, 3) := by decide +kernel
theorem dX10_takeClause_55 : decode cX10_takeClause 55 = .ok (.aload_n 0, 1) := by decide +kernel
theorem dX10_takeClause_56 : decode cX10_takeClause 56 = .ok (.dup, 1) := by decide +kernel
theorem dX10_takeClause_57 : decode cX10_takeClause 57 = .ok (.getfield 137, 3) := by decide +kernel
theorem dX10_takeClause_60 : decode cX10_takeClause 60 = .ok (.iconst 1, 1) := by decide +kernel
theorem dX10_takeClause_61 : decode cX10_takeClause 61 = .ok (.iadd, 1) := by decide +kernel
theorem dX10_takeClause_62 : decode cX10_takeClause 62 = .ok (.putfield 137, 3) := by decide +kernel
theorem dX10_takeClause_65 : decode cX10_takeClause 65 = .ok (.aload_n 0, 1) := by decide +kernel
theorem dX10_takeClause_66 : decode cX10_takeClause 66 = .ok (.aload_n 0, 1) := by decide +kernel
theorem dX10_takeClause_67 : decode cX10_takeClause 67 = .ok (.getfield 105, 3) := by decide +kernel
theorem dX10_takeClause_70 : decode cX10_takeClause 70 = .ok (.putfield 94, 3) := by decide +kernel
theorem dX10_takeClause_73 : decode cX10_takeClause 73 = .ok (.iconst 0, 1) := by decide +kernel
theorem dX10_takeClause_74 : decode cX10_takeClause 74 = .ok (.istore_n 2, 1) := by decide +kernel
theorem dX10_takeClause_75 : decode cX10_takeClause 75 = .ok (.iload_n 1, 1) := by decide +kernel
theorem dX10_takeClause_76 : decode cX10_takeClause 76 = .ok (.tableswitch 146 0 7 #[48, 63, 71, 79, 94, 108, 125, 133], 48) := by decide +kernel
theorem dX10_takeClause_124 : decode cX10_takeClause 124 = .ok (.aload_n 0, 1) := by decide +kernel
theorem dX10_takeClause_125 : decode cX10_takeClause 125 = .ok (.iconst 0, 1) := by decide +kernel
theorem dX10_takeClause_126 : decode cX10_takeClause 126 = .ok (.sipush 200, 3) := by decide +kernel
theorem dX10_takeClause_129 : decode cX10_takeClause 129 = .ok (.sipush 999, 3) := by decide +kernel
theorem dX10_takeClause_132 : decode cX10_takeClause 132 = .ok (.invokevirtual 147, 3) := by decide +kernel
theorem dX10_takeClause_135 : decode cX10_takeClause 135 = .ok (.istore_n 2, 1) := by decide +kernel
theorem dX10_takeClause_136 : decode cX10_takeClause 136 = .ok (.goto 100, 3) := by decide +kernel
theorem dX10_takeClause_139 : decode cX10_takeClause 139 = .ok (.aload_n 0, 1) := by decide +kernel
theorem dX10_takeClause_140 : decode cX10_takeClause 140 = .ok (.invokevirtual 169, 3) := by decide +kernel
theorem dX10_takeClause_143 : decode cX10_takeClause 143 = .ok (.istore_n 2, 1) := by decide +kernel
theorem dX10_takeClause_144 : decode cX10_takeClause 144 = .ok (.goto 92, 3) := by decide +kernel
theorem dX10_takeClause_147 : decode cX10_takeClause 147 = .ok (.aload_n 0, 1) := by decide +kernel
theorem dX10_takeClause_148 : decode cX10_takeClause 148 = .ok (.invokevirtual 172, 3) := by decide +kernel
theorem dX10_takeClause_151 : decode cX10_takeClause 151 = .ok (.istore_n 2, 1) := by decide +kernel
theorem dX10_takeClause_152 : decode cX10_takeClause 152 = .ok (.goto 84, 3) := by decide +kernel
theorem dX10_takeClause_155 : decode cX10_takeClause 155 = .ok (.aload_n 0, 1) := by decide +kernel
theorem dX10_takeClause_156 : decode cX10_takeClause 156 = .ok (.bipush 6, 2) := by decide +kernel
theorem dX10_takeClause_158 : decode cX10_takeClause 158 = .ok (.bipush 50, 2) := by decide +kernel
theorem dX10_takeClause_160 : decode cX10_takeClause 160 = .ok (.sipush 600, 3) := by decide +kernel
theorem dX10_takeClause_163 : decode cX10_takeClause 163 = .ok (.invokevirtual 147, 3) := by decide +kernel
theorem dX10_takeClause_166 : decode cX10_takeClause 166 = .ok (.istore_n 2, 1) := by decide +kernel
theorem dX10_takeClause_167 : decode cX10_takeClause 167 = .ok (.goto 69, 3) := by decide +kernel
theorem dX10_takeClause_170 : decode cX10_takeClause 170 = .ok (.aload_n 0, 1) := by decide +kernel
theorem dX10_takeClause_171 : decode cX10_takeClause 171 = .ok (.bipush 7, 2) := by decide +kernel
theorem dX10_takeClause_173 : decode cX10_takeClause 173 = .ok (.iconst 0, 1) := by decide +kernel
theorem dX10_takeClause_174 : decode cX10_takeClause 174 = .ok (.sipush 300, 3) := by decide +kernel
theorem dX10_takeClause_177 : decode cX10_takeClause 177 = .ok (.invokevirtual 147, 3) := by decide +kernel
theorem dX10_takeClause_180 : decode cX10_takeClause 180 = .ok (.istore_n 2, 1) := by decide +kernel
theorem dX10_takeClause_181 : decode cX10_takeClause 181 = .ok (.goto 55, 3) := by decide +kernel
theorem dX10_takeClause_184 : decode cX10_takeClause 184 = .ok (.aload_n 0, 1) := by decide +kernel
theorem dX10_takeClause_185 : decode cX10_takeClause 185 = .ok (.aload_n 0, 1) := by decide +kernel
theorem dX10_takeClause_186 : decode cX10_takeClause 186 = .ok (.getfield 39, 3) := by decide +kernel
theorem dX10_takeClause_189 : decode cX10_takeClause 189 = .ok (.bipush 24, 2) := by decide +kernel
theorem dX10_takeClause_191 : decode cX10_takeClause 191 = .ok (.sipush 600, 3) := by decide +kernel
theorem dX10_takeClause_194 : decode cX10_takeClause 194 = .ok (.invokevirtual 175, 3) := by decide +kernel
theorem dX10_takeClause_197 : decode cX10_takeClause 197 = .ok (.istore_n 2, 1) := by decide +kernel
theorem dX10_takeClause_198 : decode cX10_takeClause 198 = .ok (.goto 38, 3) := by decide +kernel
theorem dX10_takeClause_201 : decode cX10_takeClause 201 = .ok (.aload_n 0, 1) := by decide +kernel
theorem dX10_takeClause_202 : decode cX10_takeClause 202 = .ok (.invokevirtual 179, 3) := by decide +kernel
theorem dX10_takeClause_205 : decode cX10_takeClause 205 = .ok (.istore_n 2, 1) := by decide +kernel
theorem dX10_takeClause_206 : decode cX10_takeClause 206 = .ok (.goto 30, 3) := by decide +kernel
theorem dX10_takeClause_209 : decode cX10_takeClause 209 = .ok (.aload_n 0, 1) := by decide +kernel
theorem dX10_takeClause_210 : decode cX10_takeClause 210 = .ok (.bipush 8, 2) := by decide +kernel
theorem dX10_takeClause_212 : decode cX10_takeClause 212 = .ok (.iconst 1, 1) := by decide +kernel
theorem dX10_takeClause_213 : decode cX10_takeClause 213 = .ok (.bipush 24, 2) := by decide +kernel
theorem dX10_takeClause_215 : decode cX10_takeClause 215 = .ok (.invokevirtual 147, 3) := by decide +kernel
theorem dX10_takeClause_218 : decode cX10_takeClause 218 = .ok (.istore_n 2, 1) := by decide +kernel
theorem dX10_takeClause_219 : decode cX10_takeClause 219 = .ok (.goto 17, 3) := by decide +kernel
theorem dX10_takeClause_222 : decode cX10_takeClause 222 = .ok (.aload_n 0, 1) := by decide +kernel
theorem dX10_takeClause_223 : decode cX10_takeClause 223 = .ok (.aload_n 0, 1) := by decide +kernel
theorem dX10_takeClause_224 : decode cX10_takeClause 224 = .ok (.getfield 45, 3) := by decide +kernel
theorem dX10_takeClause_227 : decode cX10_takeClause 227 = .ok (.bipush 12, 2) := by decide +kernel
theorem dX10_takeClause_229 : decode cX10_takeClause 229 = .ok (.sipush 300, 3) := by decide +kernel
theorem dX10_takeClause_232 : decode cX10_takeClause 232 = .ok (.invokevirtual 175, 3) := by decide +kernel
theorem dX10_takeClause_235 : decode cX10_takeClause 235 = .ok (.istore_n 2, 1) := by decide +kernel
theorem dX10_takeClause_236 : decode cX10_takeClause 236 = .ok (.iload_n 2, 1) := by decide +kernel
theorem dX10_takeClause_237 : decode cX10_takeClause 237 = .ok (.ifCond .le 7, 3) := by decide +kernel
theorem dX10_takeClause_240 : decode cX10_takeClause 240 = .ok (.iload_n 2, 1) := by decide +kernel
theorem dX10_takeClause_241 : decode cX10_takeClause 241 = .ok (.goto 7, 3) := by decide +kernel
theorem dX10_takeClause_244 : decode cX10_takeClause 244 = .ok (.aload_n 0, 1) := by decide +kernel
theorem dX10_takeClause_245 : decode cX10_takeClause 245 = .ok (.invokevirtual 182, 3) := by decide +kernel
theorem dX10_takeClause_248 : decode cX10_takeClause 248 = .ok (.ireturn, 1) := by decide +kernel
theorem dX10_takePlace_0 : decode cX10_takePlace 0 = .ok (.iconst 0, 1) := by decide +kernel
theorem dX10_takePlace_1 : decode cX10_takePlace 1 = .ok (.istore_n 1, 1) := by decide +kernel
theorem dX10_takePlace_2 : decode cX10_takePlace 2 = .ok (.iload_n 1, 1) := by decide +kernel
theorem dX10_takePlace_3 : decode cX10_takePlace 3 = .ok (.bipush 9, 2) := by decide +kernel
theorem dX10_takePlace_5 : decode cX10_takePlace 5 = .ok (.if_icmp .ge 21, 3) := by decide +kernel
theorem dX10_takePlace_8 : decode cX10_takePlace 8 = .ok (.aload_n 0, 1) := by decide +kernel
theorem dX10_takePlace_9 : decode cX10_takePlace 9 = .ok (.getfield 7, 3) := by decide +kernel
theorem dX10_takePlace_12 : decode cX10_takePlace 12 = .ok (.iload_n 1, 1) := by decide +kernel
theorem dX10_takePlace_13 : decode cX10_takePlace 13 = .ok (.aload_n 0, 1) := by decide +kernel
theorem dX10_takePlace_14 : decode cX10_takePlace 14 = .ok (.getfield 36, 3) := by decide +kernel
theorem dX10_takePlace_17 : decode cX10_takePlace 17 = .ok (.iload_n 1, 1) := by decide +kernel
theorem dX10_takePlace_18 : decode cX10_takePlace 18 = .ok (.iaload, 1) := by decide +kernel
theorem dX10_takePlace_19 : decode cX10_takePlace 19 = .ok (.iastore, 1) := by decide +kernel
theorem dX10_takePlace_20 : decode cX10_takePlace 20 = .ok (.iinc 1 1, 3) := by decide +kernel
theorem dX10_takePlace_23 : decode cX10_takePlace 23 = .ok (.goto (-21), 3) := by decide +kernel
theorem dX10_takePlace_26 : decode cX10_takePlace 26 = .ok (.iconst 0, 1) := by decide +kernel
theorem dX10_takePlace_27 : decode cX10_takePlace 27 = .ok (.istore_n 1, 1) := by decide +kernel
theorem dX10_takePlace_28 : decode cX10_takePlace 28 = .ok (.iload_n 1, 1) := by decide +kernel
theorem dX10_takePlace_29 : decode cX10_takePlace 29 = .ok (.bipush 24, 2) := by decide +kernel
theorem dX10_takePlace_31 : decode cX10_takePlace 31 = .ok (.if_icmp .ge 33, 3) := by decide +kernel
theorem dX10_takePlace_34 : decode cX10_takePlace 34 = .ok (.aload_n 0, 1) := by decide +kernel
theorem dX10_takePlace_35 : decode cX10_takePlace 35 = .ok (.getfield 13, 3) := by decide +kernel
theorem dX10_takePlace_38 : decode cX10_takePlace 38 = .ok (.iload_n 1, 1) := by decide +kernel
theorem dX10_takePlace_39 : decode cX10_takePlace 39 = .ok (.aload_n 0, 1) := by decide +kernel
theorem dX10_takePlace_40 : decode cX10_takePlace 40 = .ok (.getfield 39, 3) := by decide +kernel
theorem dX10_takePlace_43 : decode cX10_takePlace 43 = .ok (.iload_n 1, 1) := by decide +kernel
theorem dX10_takePlace_44 : decode cX10_takePlace 44 = .ok (.iaload, 1) := by decide +kernel
theorem dX10_takePlace_45 : decode cX10_takePlace 45 = .ok (.iastore, 1) := by decide +kernel
theorem dX10_takePlace_46 : decode cX10_takePlace 46 = .ok (.aload_n 0, 1) := by decide +kernel
theorem dX10_takePlace_47 : decode cX10_takePlace 47 = .ok (.getfield 16, 3) := by decide +kernel
theorem dX10_takePlace_50 : decode cX10_takePlace 50 = .ok (.iload_n 1, 1) := by decide +kernel
theorem dX10_takePlace_51 : decode cX10_takePlace 51 = .ok (.aload_n 0, 1) := by decide +kernel
theorem dX10_takePlace_52 : decode cX10_takePlace 52 = .ok (.getfield 42, 3) := by decide +kernel
theorem dX10_takePlace_55 : decode cX10_takePlace 55 = .ok (.iload_n 1, 1) := by decide +kernel
theorem dX10_takePlace_56 : decode cX10_takePlace 56 = .ok (.baload, 1) := by decide +kernel
theorem dX10_takePlace_57 : decode cX10_takePlace 57 = .ok (.bastore, 1) := by decide +kernel
theorem dX10_takePlace_58 : decode cX10_takePlace 58 = .ok (.iinc 1 1, 3) := by decide +kernel
theorem dX10_takePlace_61 : decode cX10_takePlace 61 = .ok (.goto (-33), 3) := by decide +kernel
theorem dX10_takePlace_64 : decode cX10_takePlace 64 = .ok (.iconst 0, 1) := by decide +kernel
theorem dX10_takePlace_65 : decode cX10_takePlace 65 = .ok (.istore_n 1, 1) := by decide +kernel
theorem dX10_takePlace_66 : decode cX10_takePlace 66 = .ok (.iload_n 1, 1) := by decide +kernel
theorem dX10_takePlace_67 : decode cX10_takePlace 67 = .ok (.bipush 12, 2) := by decide +kernel
theorem dX10_takePlace_69 : decode cX10_takePlace 69 = .ok (.if_icmp .ge 21, 3) := by decide +kernel
theorem dX10_takePlace_72 : decode cX10_takePlace 72 = .ok (.aload_n 0, 1) := by decide +kernel
theorem dX10_takePlace_73 : decode cX10_takePlace 73 = .ok (.getfield 20, 3) := by decide +kernel
theorem dX10_takePlace_76 : decode cX10_takePlace 76 = .ok (.iload_n 1, 1) := by decide +kernel
theorem dX10_takePlace_77 : decode cX10_takePlace 77 = .ok (.aload_n 0, 1) := by decide +kernel
theorem dX10_takePlace_78 : decode cX10_takePlace 78 = .ok (.getfield 45, 3) := by decide +kernel
theorem dX10_takePlace_81 : decode cX10_takePlace 81 = .ok (.iload_n 1, 1) := by decide +kernel
theorem dX10_takePlace_82 : decode cX10_takePlace 82 = .ok (.iaload, 1) := by decide +kernel
theorem dX10_takePlace_83 : decode cX10_takePlace 83 = .ok (.iastore, 1) := by decide +kernel
theorem dX10_takePlace_84 : decode cX10_takePlace 84 = .ok (.iinc 1 1, 3) := by decide +kernel
theorem dX10_takePlace_87 : decode cX10_takePlace 87 = .ok (.goto (-21), 3) := by decide +kernel
theorem dX10_takePlace_90 : decode cX10_takePlace 90 = .ok (.aload_n 0, 1) := by decide +kernel
theorem dX10_takePlace_91 : decode cX10_takePlace 91 = .ok (.getfield 26, 3) := by decide +kernel
theorem dX10_takePlace_94 : decode cX10_takePlace 94 = .ok (.iconst 0, 1) := by decide +kernel
theorem dX10_takePlace_95 : decode cX10_takePlace 95 = .ok (.iconst 0, 1) := by decide +kernel
theorem dX10_takePlace_96 : decode cX10_takePlace 96 = .ok (.iastore, 1) := by decide +kernel
theorem dX10_takePlace_97 : decode cX10_takePlace 97 = .ok (.aload_n 0, 1) := by decide +kernel
theorem dX10_takePlace_98 : decode cX10_takePlace 98 = .ok (.getfield 26, 3) := by decide +kernel
theorem dX10_takePlace_101 : decode cX10_takePlace 101 = .ok (.iconst 1, 1) := by decide +kernel
theorem dX10_takePlace_102 : decode cX10_takePlace 102 = .ok (.iconst 0, 1) := by decide +kernel
theorem dX10_takePlace_103 : decode cX10_takePlace 103 = .ok (.iastore, 1) := by decide +kernel
theorem dX10_takePlace_104 : decode cX10_takePlace 104 = .ok (.aload_n 0, 1) := by decide +kernel
theorem dX10_takePlace_105 : decode cX10_takePlace 105 = .ok (.getfield 26, 3) := by decide +kernel
theorem dX10_takePlace_108 : decode cX10_takePlace 108 = .ok (.iconst 2, 1) := by decide +kernel
theorem dX10_takePlace_109 : decode cX10_takePlace 109 = .ok (.iconst 0, 1) := by decide +kernel
theorem dX10_takePlace_110 : decode cX10_takePlace 110 = .ok (.iastore, 1) := by decide +kernel
theorem dX10_takePlace_111 : decode cX10_takePlace 111 = .ok (.aload_n 0, 1) := by decide +kernel
theorem dX10_takePlace_112 : decode cX10_takePlace 112 = .ok (.getfield 26, 3) := by decide +kernel
theorem dX10_takePlace_115 : decode cX10_takePlace 115 = .ok (.iconst 3, 1) := by decide +kernel
theorem dX10_takePlace_116 : decode cX10_takePlace 116 = .ok (.aload_n 0, 1) := by decide +kernel
theorem dX10_takePlace_117 : decode cX10_takePlace 117 = .ok (.getfield 7, 3) := by decide +kernel
theorem dX10_takePlace_120 : decode cX10_takePlace 120 = .ok (.iconst 4, 1) := by decide +kernel
theorem dX10_takePlace_121 : decode cX10_takePlace 121 = .ok (.iaload, 1) := by decide +kernel
theorem dX10_takePlace_122 : decode cX10_takePlace 122 = .ok (.iastore, 1) := by decide +kernel
theorem dX10_takePlace_123 : decode cX10_takePlace 123 = .ok (.aload_n 0, 1) := by decide +kernel
theorem dX10_takePlace_124 : decode cX10_takePlace 124 = .ok (.getfield 26, 3) := by decide +kernel
theorem dX10_takePlace_127 : decode cX10_takePlace 127 = .ok (.iconst 4, 1) := by decide +kernel
theorem dX10_takePlace_128 : decode cX10_takePlace 128 = .ok (.aload_n 0, 1) := by decide +kernel
theorem dX10_takePlace_129 : decode cX10_takePlace 129 = .ok (.getfield 7, 3) := by decide +kernel
theorem dX10_takePlace_132 : decode cX10_takePlace 132 = .ok (.iconst 5, 1) := by decide +kernel
theorem dX10_takePlace_133 : decode cX10_takePlace 133 = .ok (.iaload, 1) := by decide +kernel
theorem dX10_takePlace_134 : decode cX10_takePlace 134 = .ok (.iastore, 1) := by decide +kernel
theorem dX10_takePlace_135 : decode cX10_takePlace 135 = .ok (.return_, 1) := by decide +kernel
theorem dX10_place_0 : decode cX10_place 0 = .ok (.aload_n 0, 1) := by decide +kernel
theorem dX10_place_1 : decode cX10_place 1 = .ok (.iconst (-1), 1) := by decide +kernel
theorem dX10_place_2 : decode cX10_place 2 = .ok (.putfield 32, 3) := by decide +kernel
theorem dX10_place_5 : decode cX10_place 5 = .ok (.aload_n 0, 1) := by decide +kernel
theorem dX10_place_6 : decode cX10_place 6 = .ok (.iconst 0, 1) := by decide +kernel
theorem dX10_place_7 : decode cX10_place 7 = .ok (.putfield 94, 3) := by decide +kernel
theorem dX10_place_10 : decode cX10_place 10 = .ok (.aload_n 0, 1) := by decide +kernel
theorem dX10_place_11 : decode cX10_place 11 = .ok (.invokevirtual 72, 3) := by decide +kernel
theorem dX10_place_14 : decode cX10_place 14 = .ok (.iconst 0, 1) := by decide +kernel
theorem dX10_place_15 : decode cX10_place 15 = .ok (.istore_n 1, 1) := by decide +kernel
theorem dX10_place_16 : decode cX10_place 16 = .ok (.iload_n 1, 1) := by decide +kernel
theorem dX10_place_17 : decode cX10_place 17 = .ok (.ifCond .ne 18, 3) := by decide +kernel
theorem dX10_place_20 : decode cX10_place 20 = .ok (.aload_n 0, 1) := by decide +kernel
theorem dX10_place_21 : decode cX10_place 21 = .ok (.invokevirtual 97, 3) := by decide +kernel
theorem dX10_place_24 : decode cX10_place 24 = .ok (.ifCond .lt 11, 3) := by decide +kernel
theorem dX10_place_27 : decode cX10_place 27 = .ok (.aload_n 0, 1) := by decide +kernel
theorem dX10_place_28 : decode cX10_place 28 = .ok (.invokevirtual 185, 3) := by decide +kernel
theorem dX10_place_31 : decode cX10_place 31 = .ok (.istore_n 1, 1) := by decide +kernel
theorem dX10_place_32 : decode cX10_place 32 = .ok (.goto (-16), 3) := by decide +kernel
theorem dX10_place_35 : decode cX10_place 35 = .ok (.aload_n 0, 1) := by decide +kernel
theorem dX10_place_36 : decode cX10_place 36 = .ok (.iconst 0, 1) := by decide +kernel
theorem dX10_place_37 : decode cX10_place 37 = .ok (.putfield 88, 3) := by decide +kernel
theorem dX10_place_40 : decode cX10_place 40 = .ok (.iload_n 1, 1) := by decide +kernel
theorem dX10_place_41 : decode cX10_place 41 = .ok (.ifCond .le 8, 3) := by decide +kernel
theorem dX10_place_44 : decode cX10_place 44 = .ok (.bipush (-10), 2) := by decide +kernel
theorem dX10_place_46 : decode cX10_place 46 = .ok (.iload_n 1, 1) := by decide +kernel
theorem dX10_place_47 : decode cX10_place 47 = .ok (.isub, 1) := by decide +kernel
theorem dX10_place_48 : decode cX10_place 48 = .ok (.ireturn, 1) := by decide +kernel
theorem dX10_place_49 : decode cX10_place 49 = .ok (.aload_n 0, 1) := by decide +kernel
theorem dX10_place_50 : decode cX10_place 50 = .ok (.invokevirtual 75, 3) := by decide +kernel
theorem dX10_place_53 : decode cX10_place 53 = .ok (.aload_n 0, 1) := by decide +kernel
theorem dX10_place_54 : decode cX10_place 54 = .ok (.getfield 137, 3) := by decide +kernel
theorem dX10_place_57 : decode cX10_place 57 = .ok (.ireturn, 1) := by decide +kernel
theorem dX10_takeSwinger_0 : decode cX10_takeSwinger 0 = .ok (.iconst 5, 1) := by decide +kernel
theorem dX10_takeSwinger_1 : decode cX10_takeSwinger 1 = .ok (.aload_n 0, 1) := by decide +kernel
theorem dX10_takeSwinger_2 : decode cX10_takeSwinger 2 = .ok (.getfield 78, 3) := by decide +kernel
theorem dX10_takeSwinger_5 : decode cX10_takeSwinger 5 = .ok (.imul, 1) := by decide +kernel
theorem dX10_takeSwinger_6 : decode cX10_takeSwinger 6 = .ok (.istore_n 1, 1) := by decide +kernel
theorem dX10_takeSwinger_7 : decode cX10_takeSwinger 7 = .ok (.aload_n 0, 1) := by decide +kernel
theorem dX10_takeSwinger_8 : decode cX10_takeSwinger 8 = .ok (.bipush 10, 2) := by decide +kernel
theorem dX10_takeSwinger_10 : decode cX10_takeSwinger 10 = .ok (.sipush 150, 3) := by decide +kernel
theorem dX10_takeSwinger_13 : decode cX10_takeSwinger 13 = .ok (.invokevirtual 144, 3) := by decide +kernel
theorem dX10_takeSwinger_16 : decode cX10_takeSwinger 16 = .ok (.istore_n 2, 1) := by decide +kernel
theorem dX10_takeSwinger_17 : decode cX10_takeSwinger 17 = .ok (.aload_n 0, 1) := by decide +kernel
theorem dX10_takeSwinger_18 : decode cX10_takeSwinger 18 = .ok (.getfield 23, 3) := by decide +kernel
theorem dX10_takeSwinger_21 : decode cX10_takeSwinger 21 = .ok (.iload_n 1, 1) := by decide +kernel
theorem dX10_takeSwinger_22 : decode cX10_takeSwinger 22 = .ok (.aload_n 0, 1) := by decide +kernel
theorem dX10_takeSwinger_23 : decode cX10_takeSwinger 23 = .ok (.getfield 131, 3) := by decide +kernel
theorem dX10_takeSwinger_26 : decode cX10_takeSwinger 26 = .ok (.iastore, 1) := by decide +kernel
theorem dX10_takeSwinger_27 : decode cX10_takeSwinger 27 = .ok (.iload_n 2, 1) := by decide +kernel
theorem dX10_takeSwinger_28 : decode cX10_takeSwinger 28 = .ok (.ifCond .le 7, 3) := by decide +kernel
theorem dX10_takeSwinger_31 : decode cX10_takeSwinger 31 = .ok (.iload_n 2, 1) := by decide +kernel
theorem dX10_takeSwinger_32 : decode cX10_takeSwinger 32 = .ok (.goto 12, 3) := by decide +kernel
theorem dX10_takeSwinger_35 : decode cX10_takeSwinger 35 = .ok (.aload_n 0, 1) := by decide +kernel
theorem dX10_takeSwinger_36 : decode cX10_takeSwinger 36 = .ok (.bipush 50, 2) := by decide +kernel
theorem dX10_takeSwinger_38 : decode cX10_takeSwinger 38 = .ok (.sipush 220, 3) := by decide +kernel
theorem dX10_takeSwinger_41 : decode cX10_takeSwinger 41 = .ok (.invokevirtual 144, 3) := by decide +kernel
theorem dX10_takeSwinger_44 : decode cX10_takeSwinger 44 = .ok (.istore_n 2, 1) := by decide +kernel
theorem dX10_takeSwinger_45 : decode cX10_takeSwinger 45 = .ok (.aload_n 0, 1) := by decide +kernel
theorem dX10_takeSwinger_46 : decode cX10_takeSwinger 46 = .ok (.getfield 23, 3) := by decide +kernel
theorem dX10_takeSwinger_49 : decode cX10_takeSwinger 49 = .ok (.iload_n 1, 1) := by decide +kernel
theorem dX10_takeSwinger_50 : decode cX10_takeSwinger 50 = .ok (.iconst 1, 1) := by decide +kernel
theorem dX10_takeSwinger_51 : decode cX10_takeSwinger 51 = .ok (.iadd, 1) := by decide +kernel
theorem dX10_takeSwinger_52 : decode cX10_takeSwinger 52 = .ok (.aload_n 0, 1) := by decide +kernel
theorem dX10_takeSwinger_53 : decode cX10_takeSwinger 53 = .ok (.getfield 131, 3) := by decide +kernel
theorem dX10_takeSwinger_56 : decode cX10_takeSwinger 56 = .ok (.iastore, 1) := by decide +kernel
theorem dX10_takeSwinger_57 : decode cX10_takeSwinger 57 = .ok (.iload_n 2, 1) := by decide +kernel
theorem dX10_takeSwinger_58 : decode cX10_takeSwinger 58 = .ok (.ifCond .le 7, 3) := by decide +kernel
theorem dX10_takeSwinger_61 : decode cX10_takeSwinger 61 = .ok (.iload_n 2, 1) := by decide +kernel
theorem dX10_takeSwinger_62 : decode cX10_takeSwinger 62 = .ok (.goto 12, 3) := by decide +kernel
theorem dX10_takeSwinger_65 : decode cX10_takeSwinger 65 = .ok (.aload_n 0, 1) := by decide +kernel
theorem dX10_takeSwinger_66 : decode cX10_takeSwinger 66 = .ok (.bipush 10, 2) := by decide +kernel
theorem dX10_takeSwinger_68 : decode cX10_takeSwinger 68 = .ok (.sipush 300, 3) := by decide +kernel
theorem dX10_takeSwinger_71 : decode cX10_takeSwinger 71 = .ok (.invokevirtual 144, 3) := by decide +kernel
theorem dX10_takeSwinger_74 : decode cX10_takeSwinger 74 = .ok (.istore_n 2, 1) := by decide +kernel
theorem dX10_takeSwinger_75 : decode cX10_takeSwinger 75 = .ok (.aload_n 0, 1) := by decide +kernel
theorem dX10_takeSwinger_76 : decode cX10_takeSwinger 76 = .ok (.getfield 23, 3) := by decide +kernel
theorem dX10_takeSwinger_79 : decode cX10_takeSwinger 79 = .ok (.iload_n 1, 1) := by decide +kernel
theorem dX10_takeSwinger_80 : decode cX10_takeSwinger 80 = .ok (.iconst 2, 1) := by decide +kernel
theorem dX10_takeSwinger_81 : decode cX10_takeSwinger 81 = .ok (.iadd, 1) := by decide +kernel
theorem dX10_takeSwinger_82 : decode cX10_takeSwinger 82 = .ok (.aload_n 0, 1) := by decide +kernel
theorem dX10_takeSwinger_83 : decode cX10_takeSwinger 83 = .ok (.getfield 131, 3) := by decide +kernel
theorem dX10_takeSwinger_86 : decode cX10_takeSwinger 86 = .ok (.iastore, 1) := by decide +kernel
theorem dX10_takeSwinger_87 : decode cX10_takeSwinger 87 = .ok (.iload_n 2, 1) := by decide +kernel
theorem dX10_takeSwinger_88 : decode cX10_takeSwinger 88 = .ok (.ifCond .le 7, 3) := by decide +kernel
theorem dX10_takeSwinger_91 : decode cX10_takeSwinger 91 = .ok (.iload_n 2, 1) := by decide +kernel
theorem dX10_takeSwinger_92 : decode cX10_takeSwinger 92 = .ok (.goto 10, 3) := by decide +kernel
theorem dX10_takeSwinger_95 : decode cX10_takeSwinger 95 = .ok (.aload_n 0, 1) := by decide +kernel
theorem dX10_takeSwinger_96 : decode cX10_takeSwinger 96 = .ok (.iconst 0, 1) := by decide +kernel
theorem dX10_takeSwinger_97 : decode cX10_takeSwinger 97 = .ok (.bipush 20, 2) := by decide +kernel
theorem dX10_takeSwinger_99 : decode cX10_takeSwinger 99 = .ok (.invokevirtual 144, 3) := by decide +kernel
theorem dX10_takeSwinger_102 : decode cX10_takeSwinger 102 = .ok (.istore_n 2, 1) := by decide +kernel
theorem dX10_takeSwinger_103 : decode cX10_takeSwinger 103 = .ok (.aload_n 0, 1) := by decide +kernel
theorem dX10_takeSwinger_104 : decode cX10_takeSwinger 104 = .ok (.getfield 23, 3) := by decide +kernel
theorem dX10_takeSwinger_107 : decode cX10_takeSwinger 107 = .ok (.iload_n 1, 1) := by decide +kernel
theorem dX10_takeSwinger_108 : decode cX10_takeSwinger 108 = .ok (.iconst 3, 1) := by decide +kernel
theorem dX10_takeSwinger_109 : decode cX10_takeSwinger 109 = .ok (.iadd, 1) := by decide +kernel
theorem dX10_takeSwinger_110 : decode cX10_takeSwinger 110 = .ok (.aload_n 0, 1) := by decide +kernel
theorem dX10_takeSwinger_111 : decode cX10_takeSwinger 111 = .ok (.getfield 131, 3) := by decide +kernel
theorem dX10_takeSwinger_114 : decode cX10_takeSwinger 114 = .ok (.iastore, 1) := by decide +kernel
theorem dX10_takeSwinger_115 : decode cX10_takeSwinger 115 = .ok (.iload_n 2, 1) := by decide +kernel
theorem dX10_takeSwinger_116 : decode cX10_takeSwinger 116 = .ok (.ifCond .le 7, 3) := by decide +kernel
theorem dX10_takeSwinger_119 : decode cX10_takeSwinger 119 = .ok (.iload_n 2, 1) := by decide +kernel
theorem dX10_takeSwinger_120 : decode cX10_takeSwinger 120 = .ok (.goto 10, 3) := by decide +kernel
theorem dX10_takeSwinger_123 : decode cX10_takeSwinger 123 = .ok (.aload_n 0, 1) := by decide +kernel
theorem dX10_takeSwinger_124 : decode cX10_takeSwinger 124 = .ok (.iconst 0, 1) := by decide +kernel
theorem dX10_takeSwinger_125 : decode cX10_takeSwinger 125 = .ok (.bipush 36, 2) := by decide +kernel
theorem dX10_takeSwinger_127 : decode cX10_takeSwinger 127 = .ok (.invokevirtual 144, 3) := by decide +kernel
theorem dX10_takeSwinger_130 : decode cX10_takeSwinger 130 = .ok (.istore_n 2, 1) := by decide +kernel
theorem dX10_takeSwinger_131 : decode cX10_takeSwinger 131 = .ok (.aload_n 0, 1) := by decide +kernel
theorem dX10_takeSwinger_132 : decode cX10_takeSwinger 132 = .ok (.getfield 23, 3) := by decide +kernel
theorem dX10_takeSwinger_135 : decode cX10_takeSwinger 135 = .ok (.iload_n 1, 1) := by decide +kernel
theorem dX10_takeSwinger_136 : decode cX10_takeSwinger 136 = .ok (.iconst 4, 1) := by decide +kernel
theorem dX10_takeSwinger_137 : decode cX10_takeSwinger 137 = .ok (.iadd, 1) := by decide +kernel
theorem dX10_takeSwinger_138 : decode cX10_takeSwinger 138 = .ok (.aload_n 0, 1) := by decide +kernel
theorem dX10_takeSwinger_139 : decode cX10_takeSwinger 139 = .ok (.getfield 131, 3) := by decide +kernel
theorem dX10_takeSwinger_142 : decode cX10_takeSwinger 142 = .ok (.iastore, 1) := by decide +kernel
theorem dX10_takeSwinger_143 : decode cX10_takeSwinger 143 = .ok (.iload_n 2, 1) := by decide +kernel
theorem dX10_takeSwinger_144 : decode cX10_takeSwinger 144 = .ok (.ifCond .ne 22, 3) := by decide +kernel
theorem dX10_takeSwinger_147 : decode cX10_takeSwinger 147 = .ok (.aload_n 0, 1) := by decide +kernel
theorem dX10_takeSwinger_148 : decode cX10_takeSwinger 148 = .ok (.invokevirtual 97, 3) := by decide +kernel
theorem dX10_takeSwinger_151 : decode cX10_takeSwinger 151 = .ok (.ifCond .lt 15, 3) := by decide +kernel
theorem dX10_takeSwinger_154 : decode cX10_takeSwinger 154 = .ok (.aload_n 0, 1) := by decide +kernel
theorem dX10_takeSwinger_155 : decode cX10_takeSwinger 155 = .ok (.iconst 1, 1) := by decide +kernel
theorem dX10_takeSwinger_156 : decode cX10_takeSwinger 156 = .ok (.aload_n 0, 1) := by decide +kernel
theorem dX10_takeSwinger_157 : decode cX10_takeSwinger 157 = .ok (.getfield 94, 3) := by decide +kernel
theorem dX10_takeSwinger_160 : decode cX10_takeSwinger 160 = .ok (.invokevirtual 124, 3) := by decide +kernel
theorem dX10_takeSwinger_163 : decode cX10_takeSwinger 163 = .ok (.goto 4, 3) := by decide +kernel
theorem dX10_takeSwinger_166 : decode cX10_takeSwinger 166 = .ok (.iload_n 2, 1) := by decide +kernel
theorem dX10_takeSwinger_167 : decode cX10_takeSwinger 167 = .ok (.ireturn, 1) := by decide +kernel
theorem dX10_swinger_0 : decode cX10_swinger 0 = .ok (.aload_n 0, 1) := by decide +kernel
theorem dX10_swinger_1 : decode cX10_swinger 1 = .ok (.getfield 88, 3) := by decide +kernel
theorem dX10_swinger_4 : decode cX10_swinger 4 = .ok (.bipush 40, 2) := by decide +kernel
theorem dX10_swinger_6 : decode cX10_swinger 6 = .ok (.if_icmp .le 6, 3) := by decide +kernel
theorem dX10_swinger_9 : decode cX10_swinger 9 = .ok (.ldc 188, 2) := by decide +kernel
theorem dX10_swinger_11 : decode cX10_swinger 11 = .ok (.ireturn, 1) := by decide +kernel
theorem dX10_swinger_12 : decode cX10_swinger 12 = .ok (.aload_n 0, 1) := by decide +kernel
theorem dX10_swinger_13 : decode cX10_swinger 13 = .ok (.getfield 78, 3) := by decide +kernel
theorem dX10_swinger_16 : decode cX10_swinger 16 = .ok (.bipush 8, 2) := by decide +kernel
theorem dX10_swinger_18 : decode cX10_swinger 18 = .ok (.if_icmp .ne 6, 3) := by decide +kernel
theorem dX10_swinger_21 : decode cX10_swinger 21 = .ok (.ldc 91, 2) := by decide +kernel
theorem dX10_swinger_23 : decode cX10_swinger 23 = .ok (.ireturn, 1) := by decide +kernel
theorem dX10_swinger_24 : decode cX10_swinger 24 = .ok (.aload_n 0, 1) := by decide +kernel
theorem dX10_swinger_25 : decode cX10_swinger 25 = .ok (.iconst (-1), 1) := by decide +kernel
theorem dX10_swinger_26 : decode cX10_swinger 26 = .ok (.putfield 32, 3) := by decide +kernel
theorem dX10_swinger_29 : decode cX10_swinger 29 = .ok (.aload_n 0, 1) := by decide +kernel
theorem dX10_swinger_30 : decode cX10_swinger 30 = .ok (.iconst 0, 1) := by decide +kernel
theorem dX10_swinger_31 : decode cX10_swinger 31 = .ok (.putfield 94, 3) := by decide +kernel
theorem dX10_swinger_34 : decode cX10_swinger 34 = .ok (.aload_n 0, 1) := by decide +kernel
theorem dX10_swinger_35 : decode cX10_swinger 35 = .ok (.invokevirtual 189, 3) := by decide +kernel
theorem dX10_swinger_38 : decode cX10_swinger 38 = .ok (.istore_n 1, 1) := by decide +kernel
theorem dX10_swinger_39 : decode cX10_swinger 39 = .ok (.aload_n 0, 1) := by decide +kernel
theorem dX10_swinger_40 : decode cX10_swinger 40 = .ok (.iconst 0, 1) := by decide +kernel
theorem dX10_swinger_41 : decode cX10_swinger 41 = .ok (.putfield 88, 3) := by decide +kernel
theorem dX10_swinger_44 : decode cX10_swinger 44 = .ok (.iload_n 1, 1) := by decide +kernel
theorem dX10_swinger_45 : decode cX10_swinger 45 = .ok (.ifCond .le 8, 3) := by decide +kernel
theorem dX10_swinger_48 : decode cX10_swinger 48 = .ok (.bipush (-10), 2) := by decide +kernel
theorem dX10_swinger_50 : decode cX10_swinger 50 = .ok (.iload_n 1, 1) := by decide +kernel
theorem dX10_swinger_51 : decode cX10_swinger 51 = .ok (.isub, 1) := by decide +kernel
theorem dX10_swinger_52 : decode cX10_swinger 52 = .ok (.ireturn, 1) := by decide +kernel
theorem dX10_swinger_53 : decode cX10_swinger 53 = .ok (.aload_n 0, 1) := by decide +kernel
theorem dX10_swinger_54 : decode cX10_swinger 54 = .ok (.dup, 1) := by decide +kernel
theorem dX10_swinger_55 : decode cX10_swinger 55 = .ok (.getfield 78, 3) := by decide +kernel
theorem dX10_swinger_58 : decode cX10_swinger 58 = .ok (.iconst 1, 1) := by decide +kernel
theorem dX10_swinger_59 : decode cX10_swinger 59 = .ok (.iadd, 1) := by decide +kernel
theorem dX10_swinger_60 : decode cX10_swinger 60 = .ok (.putfield 78, 3) := by decide +kernel
theorem dX10_swinger_63 : decode cX10_swinger 63 = .ok (.aload_n 0, 1) := by decide +kernel
theorem dX10_swinger_64 : decode cX10_swinger 64 = .ok (.getfield 78, 3) := by decide +kernel
theorem dX10_swinger_67 : decode cX10_swinger 67 = .ok (.iconst 1, 1) := by decide +kernel
theorem dX10_swinger_68 : decode cX10_swinger 68 = .ok (.isub, 1) := by decide +kernel
theorem dX10_swinger_69 : decode cX10_swinger 69 = .ok (.ireturn, 1) := by decide +kernel
theorem dX10_fault_0 : decode cX10_fault 0 = .ok (.aload_n 0, 1) := by decide +kernel
theorem dX10_fault_1 : decode cX10_fault 1 = .ok (.getfield 32, 3) := by decide +kernel
theorem dX10_fault_4 : decode cX10_fault 4 = .ok (.ireturn, 1) := by decide +kernel
theorem dX10_told_0 : decode cX10_told 0 = .ok (.iload_n 1, 1) := by decide +kernel
theorem dX10_told_1 : decode cX10_told 1 = .ok (.i2l, 1) := by decide +kernel
theorem dX10_told_2 : decode cX10_told 2 = .ok (.lconst 0, 1) := by decide +kernel
theorem dX10_told_3 : decode cX10_told 3 = .ok (.ldc2_w 85, 3) := by decide +kernel
theorem dX10_told_6 : decode cX10_told 6 = .ok (.invokestatic 81, 3) := by decide +kernel
theorem dX10_told_9 : decode cX10_told 9 = .ok (.ifCond .eq 12, 3) := by decide +kernel
theorem dX10_told_12 : decode cX10_told 12 = .ok (.aload_n 0, 1) := by decide +kernel
theorem dX10_told_13 : decode cX10_told 13 = .ok (.getfield 7, 3) := by decide +kernel
theorem dX10_told_16 : decode cX10_told 16 = .ok (.iload_n 1, 1) := by decide +kernel
theorem dX10_told_17 : decode cX10_told 17 = .ok (.iaload, 1) := by decide +kernel
theorem dX10_told_18 : decode cX10_told 18 = .ok (.goto 31, 3) := by decide +kernel
theorem dX10_told_21 : decode cX10_told 21 = .ok (.iload_n 1, 1) := by decide +kernel
theorem dX10_told_22 : decode cX10_told 22 = .ok (.bipush 9, 2) := by decide +kernel
theorem dX10_told_24 : decode cX10_told 24 = .ok (.if_icmp .ne 10, 3) := by decide +kernel
theorem dX10_told_27 : decode cX10_told 27 = .ok (.aload_n 0, 1) := by decide +kernel
theorem dX10_told_28 : decode cX10_told 28 = .ok (.getfield 78, 3) := by decide +kernel
theorem dX10_told_31 : decode cX10_told 31 = .ok (.goto 18, 3) := by decide +kernel
theorem dX10_told_34 : decode cX10_told 34 = .ok (.iload_n 1, 1) := by decide +kernel
theorem dX10_told_35 : decode cX10_told 35 = .ok (.bipush 10, 2) := by decide +kernel
theorem dX10_told_37 : decode cX10_told 37 = .ok (.if_icmp .ne 10, 3) := by decide +kernel
theorem dX10_told_40 : decode cX10_told 40 = .ok (.aload_n 0, 1) := by decide +kernel
theorem dX10_told_41 : decode cX10_told 41 = .ok (.getfield 88, 3) := by decide +kernel
theorem dX10_told_44 : decode cX10_told 44 = .ok (.goto 5, 3) := by decide +kernel
theorem dX10_told_47 : decode cX10_told 47 = .ok (.ldc 87, 2) := by decide +kernel
theorem dX10_told_49 : decode cX10_told 49 = .ok (.ireturn, 1) := by decide +kernel
theorem dX10_lower_0 : decode cX10_lower 0 = .ok (.aload_n 0, 1) := by decide +kernel
theorem dX10_lower_1 : decode cX10_lower 1 = .ok (.getfield 20, 3) := by decide +kernel
theorem dX10_lower_4 : decode cX10_lower 4 = .ok (.aload_n 0, 1) := by decide +kernel
theorem dX10_lower_5 : decode cX10_lower 5 = .ok (.getfield 26, 3) := by decide +kernel
theorem dX10_lower_8 : decode cX10_lower 8 = .ok (.iconst 0, 1) := by decide +kernel
theorem dX10_lower_9 : decode cX10_lower 9 = .ok (.iaload, 1) := by decide +kernel
theorem dX10_lower_10 : decode cX10_lower 10 = .ok (.iaload, 1) := by decide +kernel
theorem dX10_lower_11 : decode cX10_lower 11 = .ok (.ireturn, 1) := by decide +kernel
theorem dX10_depthOf_0 : decode cX10_depthOf 0 = .ok (.aload_n 0, 1) := by decide +kernel
theorem dX10_depthOf_1 : decode cX10_depthOf 1 = .ok (.getfield 13, 3) := by decide +kernel
theorem dX10_depthOf_4 : decode cX10_depthOf 4 = .ok (.iload_n 1, 1) := by decide +kernel
theorem dX10_depthOf_5 : decode cX10_depthOf 5 = .ok (.iaload, 1) := by decide +kernel
theorem dX10_depthOf_6 : decode cX10_depthOf 6 = .ok (.aload_n 0, 1) := by decide +kernel
theorem dX10_depthOf_7 : decode cX10_depthOf 7 = .ok (.invokevirtual 192, 3) := by decide +kernel
theorem dX10_depthOf_10 : decode cX10_depthOf 10 = .ok (.if_icmp .ge 7, 3) := by decide +kernel
theorem dX10_depthOf_13 : decode cX10_depthOf 13 = .ok (.iconst 0, 1) := by decide +kernel
theorem dX10_depthOf_14 : decode cX10_depthOf 14 = .ok (.goto 14, 3) := by decide +kernel
theorem dX10_depthOf_17 : decode cX10_depthOf 17 = .ok (.aload_n 0, 1) := by decide +kernel
theorem dX10_depthOf_18 : decode cX10_depthOf 18 = .ok (.getfield 13, 3) := by decide +kernel
theorem dX10_depthOf_21 : decode cX10_depthOf 21 = .ok (.iload_n 1, 1) := by decide +kernel
theorem dX10_depthOf_22 : decode cX10_depthOf 22 = .ok (.iaload, 1) := by decide +kernel
theorem dX10_depthOf_23 : decode cX10_depthOf 23 = .ok (.aload_n 0, 1) := by decide +kernel
theorem dX10_depthOf_24 : decode cX10_depthOf 24 = .ok (.invokevirtual 192, 3) := by decide +kernel
theorem dX10_depthOf_27 : decode cX10_depthOf 27 = .ok (.isub, 1) := by decide +kernel
theorem dX10_depthOf_28 : decode cX10_depthOf 28 = .ok (.ireturn, 1) := by decide +kernel
theorem dX10_kindOf_0 : decode cX10_kindOf 0 = .ok (.iload_n 1, 1) := by decide +kernel
theorem dX10_kindOf_1 : decode cX10_kindOf 1 = .ok (.aload_n 0, 1) := by decide +kernel
theorem dX10_kindOf_2 : decode cX10_kindOf 2 = .ok (.getfield 7, 3) := by decide +kernel
theorem dX10_kindOf_5 : decode cX10_kindOf 5 = .ok (.bipush 8, 2) := by decide +kernel
theorem dX10_kindOf_7 : decode cX10_kindOf 7 = .ok (.iaload, 1) := by decide +kernel
theorem dX10_kindOf_8 : decode cX10_kindOf 8 = .ok (.if_icmp .lt 7, 3) := by decide +kernel
theorem dX10_kindOf_11 : decode cX10_kindOf 11 = .ok (.iconst 2, 1) := by decide +kernel
theorem dX10_kindOf_12 : decode cX10_kindOf 12 = .ok (.goto 17, 3) := by decide +kernel
theorem dX10_kindOf_15 : decode cX10_kindOf 15 = .ok (.aload_n 0, 1) := by decide +kernel
theorem dX10_kindOf_16 : decode cX10_kindOf 16 = .ok (.getfield 16, 3) := by decide +kernel
theorem dX10_kindOf_19 : decode cX10_kindOf 19 = .ok (.iload_n 1, 1) := by decide +kernel
theorem dX10_kindOf_20 : decode cX10_kindOf 20 = .ok (.baload, 1) := by decide +kernel
theorem dX10_kindOf_21 : decode cX10_kindOf 21 = .ok (.ifCond .eq 7, 3) := by decide +kernel
theorem dX10_kindOf_24 : decode cX10_kindOf 24 = .ok (.iconst 1, 1) := by decide +kernel
theorem dX10_kindOf_25 : decode cX10_kindOf 25 = .ok (.goto 4, 3) := by decide +kernel
theorem dX10_kindOf_28 : decode cX10_kindOf 28 = .ok (.iconst 0, 1) := by decide +kernel
theorem dX10_kindOf_29 : decode cX10_kindOf 29 = .ok (.ireturn, 1) := by decide +kernel
theorem dX10_cell_0 : decode cX10_cell 0 = .ok (.iload_n 1, 1) := by decide +kernel
theorem dX10_cell_1 : decode cX10_cell 1 = .ok (.i2l, 1) := by decide +kernel
theorem dX10_cell_2 : decode cX10_cell 2 = .ok (.lconst 0, 1) := by decide +kernel
theorem dX10_cell_3 : decode cX10_cell 3 = .ok (.ldc2_w 195, 3) := by decide +kernel
theorem dX10_cell_6 : decode cX10_cell 6 = .ok (.invokestatic 81, 3) := by decide +kernel
theorem dX10_cell_9 : decode cX10_cell 9 = .ok (.ifCond .ne 6, 3) := by decide +kernel
theorem dX10_cell_12 : decode cX10_cell 12 = .ok (.ldc 197, 2) := by decide +kernel
theorem dX10_cell_14 : decode cX10_cell 14 = .ok (.ireturn, 1) := by decide +kernel
theorem dX10_cell_15 : decode cX10_cell 15 = .ok (.iload_n 2, 1) := by decide +kernel
theorem dX10_cell_16 : decode cX10_cell 16 = .ok (.ifCond .ne 12, 3) := by decide +kernel
theorem dX10_cell_19 : decode cX10_cell 19 = .ok (.aload_n 0, 1) := by decide +kernel
theorem dX10_cell_20 : decode cX10_cell 20 = .ok (.getfield 13, 3) := by decide +kernel
theorem dX10_cell_23 : decode cX10_cell 23 = .ok (.iload_n 1, 1) := by decide +kernel
theorem dX10_cell_24 : decode cX10_cell 24 = .ok (.iaload, 1) := by decide +kernel
theorem dX10_cell_25 : decode cX10_cell 25 = .ok (.goto 31, 3) := by decide +kernel
theorem dX10_cell_28 : decode cX10_cell 28 = .ok (.iload_n 2, 1) := by decide +kernel
theorem dX10_cell_29 : decode cX10_cell 29 = .ok (.iconst 1, 1) := by decide +kernel
theorem dX10_cell_30 : decode cX10_cell 30 = .ok (.if_icmp .ne 11, 3) := by decide +kernel
theorem dX10_cell_33 : decode cX10_cell 33 = .ok (.aload_n 0, 1) := by decide +kernel
theorem dX10_cell_34 : decode cX10_cell 34 = .ok (.iload_n 1, 1) := by decide +kernel
theorem dX10_cell_35 : decode cX10_cell 35 = .ok (.invokevirtual 198, 3) := by decide +kernel
theorem dX10_cell_38 : decode cX10_cell 38 = .ok (.goto 18, 3) := by decide +kernel
theorem dX10_cell_41 : decode cX10_cell 41 = .ok (.iload_n 2, 1) := by decide +kernel
theorem dX10_cell_42 : decode cX10_cell 42 = .ok (.iconst 2, 1) := by decide +kernel
theorem dX10_cell_43 : decode cX10_cell 43 = .ok (.if_icmp .ne 11, 3) := by decide +kernel
theorem dX10_cell_46 : decode cX10_cell 46 = .ok (.aload_n 0, 1) := by decide +kernel
theorem dX10_cell_47 : decode cX10_cell 47 = .ok (.iload_n 1, 1) := by decide +kernel
theorem dX10_cell_48 : decode cX10_cell 48 = .ok (.invokevirtual 201, 3) := by decide +kernel
theorem dX10_cell_51 : decode cX10_cell 51 = .ok (.goto 5, 3) := by decide +kernel
theorem dX10_cell_54 : decode cX10_cell 54 = .ok (.ldc 87, 2) := by decide +kernel
theorem dX10_cell_56 : decode cX10_cell 56 = .ok (.ireturn, 1) := by decide +kernel
theorem dX10_who_0 : decode cX10_who 0 = .ok (.aload_n 0, 1) := by decide +kernel
theorem dX10_who_1 : decode cX10_who 1 = .ok (.iload_n 1, 1) := by decide +kernel
theorem dX10_who_2 : decode cX10_who 2 = .ok (.invokevirtual 204, 3) := by decide +kernel
theorem dX10_who_5 : decode cX10_who 5 = .ok (.ifCond .ne 6, 3) := by decide +kernel
theorem dX10_who_8 : decode cX10_who 8 = .ok (.ldc 197, 2) := by decide +kernel
theorem dX10_who_10 : decode cX10_who 10 = .ok (.ireturn, 1) := by decide +kernel
theorem dX10_who_11 : decode cX10_who 11 = .ok (.iload_n 2, 1) := by decide +kernel
theorem dX10_who_12 : decode cX10_who 12 = .ok (.i2l, 1) := by decide +kernel
theorem dX10_who_13 : decode cX10_who 13 = .ok (.lconst 0, 1) := by decide +kernel
theorem dX10_who_14 : decode cX10_who 14 = .ok (.ldc2_w 208, 3) := by decide +kernel
theorem dX10_who_17 : decode cX10_who 17 = .ok (.invokestatic 81, 3) := by decide +kernel
theorem dX10_who_20 : decode cX10_who 20 = .ok (.ifCond .eq 16, 3) := by decide +kernel
theorem dX10_who_23 : decode cX10_who 23 = .ok (.aload_n 0, 1) := by decide +kernel
theorem dX10_who_24 : decode cX10_who 24 = .ok (.getfield 23, 3) := by decide +kernel
theorem dX10_who_27 : decode cX10_who 27 = .ok (.iconst 5, 1) := by decide +kernel
theorem dX10_who_28 : decode cX10_who 28 = .ok (.iload_n 1, 1) := by decide +kernel
theorem dX10_who_29 : decode cX10_who 29 = .ok (.imul, 1) := by decide +kernel
theorem dX10_who_30 : decode cX10_who 30 = .ok (.iload_n 2, 1) := by decide +kernel
theorem dX10_who_31 : decode cX10_who 31 = .ok (.iadd, 1) := by decide +kernel
theorem dX10_who_32 : decode cX10_who 32 = .ok (.iaload, 1) := by decide +kernel
theorem dX10_who_33 : decode cX10_who 33 = .ok (.goto 5, 3) := by decide +kernel
theorem dX10_who_36 : decode cX10_who 36 = .ok (.ldc 87, 2) := by decide +kernel
theorem dX10_who_38 : decode cX10_who 38 = .ok (.ireturn, 1) := by decide +kernel
theorem dX10_mostOf_0 : decode cX10_mostOf 0 = .ok (.iload_n 0, 1) := by decide +kernel
theorem dX10_mostOf_1 : decode cX10_mostOf 1 = .ok (.ifCond .ne 8, 3) := by decide +kernel
theorem dX10_mostOf_4 : decode cX10_mostOf 4 = .ok (.bipush 11, 2) := by decide +kernel
theorem dX10_mostOf_6 : decode cX10_mostOf 6 = .ok (.goto 37, 3) := by decide +kernel
theorem dX10_mostOf_9 : decode cX10_mostOf 9 = .ok (.iload_n 0, 1) := by decide +kernel
theorem dX10_mostOf_10 : decode cX10_mostOf 10 = .ok (.iconst 1, 1) := by decide +kernel
theorem dX10_mostOf_11 : decode cX10_mostOf 11 = .ok (.if_icmp .ne 9, 3) := by decide +kernel
theorem dX10_mostOf_14 : decode cX10_mostOf 14 = .ok (.sipush 300, 3) := by decide +kernel
theorem dX10_mostOf_17 : decode cX10_mostOf 17 = .ok (.goto 26, 3) := by decide +kernel
theorem dX10_mostOf_20 : decode cX10_mostOf 20 = .ok (.iload_n 0, 1) := by decide +kernel
theorem dX10_mostOf_21 : decode cX10_mostOf 21 = .ok (.iconst 2, 1) := by decide +kernel
theorem dX10_mostOf_22 : decode cX10_mostOf 22 = .ok (.if_icmp .ne 8, 3) := by decide +kernel
theorem dX10_mostOf_25 : decode cX10_mostOf 25 = .ok (.bipush 40, 2) := by decide +kernel
theorem dX10_mostOf_27 : decode cX10_mostOf 27 = .ok (.goto 16, 3) := by decide +kernel
theorem dX10_mostOf_30 : decode cX10_mostOf 30 = .ok (.iload_n 0, 1) := by decide +kernel
theorem dX10_mostOf_31 : decode cX10_mostOf 31 = .ok (.iconst 3, 1) := by decide +kernel
theorem dX10_mostOf_32 : decode cX10_mostOf 32 = .ok (.if_icmp .ne 8, 3) := by decide +kernel
theorem dX10_mostOf_35 : decode cX10_mostOf 35 = .ok (.bipush 80, 2) := by decide +kernel
theorem dX10_mostOf_37 : decode cX10_mostOf 37 = .ok (.goto 6, 3) := by decide +kernel
theorem dX10_mostOf_40 : decode cX10_mostOf 40 = .ok (.sipush 600, 3) := by decide +kernel
theorem dX10_mostOf_43 : decode cX10_mostOf 43 = .ok (.ireturn, 1) := by decide +kernel
theorem dX10_set_0 : decode cX10_set 0 = .ok (.iload_n 1, 1) := by decide +kernel
theorem dX10_set_1 : decode cX10_set 1 = .ok (.i2l, 1) := by decide +kernel
theorem dX10_set_2 : decode cX10_set 2 = .ok (.lconst 0, 1) := by decide +kernel
theorem dX10_set_3 : decode cX10_set 3 = .ok (.ldc2_w 208, 3) := by decide +kernel
theorem dX10_set_6 : decode cX10_set 6 = .ok (.invokestatic 81, 3) := by decide +kernel
theorem dX10_set_9 : decode cX10_set 9 = .ok (.ifCond .eq 35, 3) := by decide +kernel
theorem dX10_set_12 : decode cX10_set 12 = .ok (.iload_n 2, 1) := by decide +kernel
theorem dX10_set_13 : decode cX10_set 13 = .ok (.i2l, 1) := by decide +kernel
theorem dX10_set_14 : decode cX10_set 14 = .ok (.lconst 0, 1) := by decide +kernel
theorem dX10_set_15 : decode cX10_set 15 = .ok (.iload_n 1, 1) := by decide +kernel
theorem dX10_set_16 : decode cX10_set 16 = .ok (.invokestatic 210, 3) := by decide +kernel
theorem dX10_set_19 : decode cX10_set 19 = .ok (.i2l, 1) := by decide +kernel
theorem dX10_set_20 : decode cX10_set 20 = .ok (.invokestatic 81, 3) := by decide +kernel
theorem dX10_set_23 : decode cX10_set 23 = .ok (.ifCond .eq 21, 3) := by decide +kernel
theorem dX10_set_26 : decode cX10_set 26 = .ok (.iload_n 1, 1) := by decide +kernel
theorem dX10_set_27 : decode cX10_set 27 = .ok (.iconst 1, 1) := by decide +kernel
theorem dX10_set_28 : decode cX10_set 28 = .ok (.if_icmp .ne 19, 3) := by decide +kernel
theorem dX10_set_31 : decode cX10_set 31 = .ok (.iload_n 2, 1) := by decide +kernel
theorem dX10_set_32 : decode cX10_set 32 = .ok (.aload_n 0, 1) := by decide +kernel
theorem dX10_set_33 : decode cX10_set 33 = .ok (.getfield 7, 3) := by decide +kernel
theorem dX10_set_36 : decode cX10_set 36 = .ok (.iconst 1, 1) := by decide +kernel
theorem dX10_set_37 : decode cX10_set 37 = .ok (.iaload, 1) := by decide +kernel
theorem dX10_set_38 : decode cX10_set 38 = .ok (.bipush 50, 2) := by decide +kernel
theorem dX10_set_40 : decode cX10_set 40 = .ok (.isub, 1) := by decide +kernel
theorem dX10_set_41 : decode cX10_set 41 = .ok (.if_icmp .le 6, 3) := by decide +kernel
theorem dX10_set_44 : decode cX10_set 44 = .ok (.ldc 87, 2) := by decide +kernel
theorem dX10_set_46 : decode cX10_set 46 = .ok (.ireturn, 1) := by decide +kernel
theorem dX10_set_47 : decode cX10_set 47 = .ok (.aload_n 0, 1) := by decide +kernel
theorem dX10_set_48 : decode cX10_set 48 = .ok (.getfield 26, 3) := by decide +kernel
theorem dX10_set_51 : decode cX10_set 51 = .ok (.iload_n 1, 1) := by decide +kernel
theorem dX10_set_52 : decode cX10_set 52 = .ok (.iaload, 1) := by decide +kernel
theorem dX10_set_53 : decode cX10_set 53 = .ok (.istore_n 3, 1) := by decide +kernel
theorem dX10_set_54 : decode cX10_set 54 = .ok (.aload_n 0, 1) := by decide +kernel
theorem dX10_set_55 : decode cX10_set 55 = .ok (.getfield 26, 3) := by decide +kernel
theorem dX10_set_58 : decode cX10_set 58 = .ok (.iload_n 1, 1) := by decide +kernel
theorem dX10_set_59 : decode cX10_set 59 = .ok (.iload_n 2, 1) := by decide +kernel
theorem dX10_set_60 : decode cX10_set 60 = .ok (.iastore, 1) := by decide +kernel
theorem dX10_set_61 : decode cX10_set 61 = .ok (.iload_n 3, 1) := by decide +kernel
theorem dX10_set_62 : decode cX10_set 62 = .ok (.ireturn, 1) := by decide +kernel
theorem dX10_strengthIn_0 : decode cX10_strengthIn 0 = .ok (.aload_n 0, 1) := by decide +kernel
theorem dX10_strengthIn_1 : decode cX10_strengthIn 1 = .ok (.getfield 7, 3) := by decide +kernel
theorem dX10_strengthIn_4 : decode cX10_strengthIn 4 = .ok (.iconst 2, 1) := by decide +kernel
theorem dX10_strengthIn_5 : decode cX10_strengthIn 5 = .ok (.iaload, 1) := by decide +kernel
theorem dX10_strengthIn_6 : decode cX10_strengthIn 6 = .ok (.istore_n 2, 1) := by decide +kernel
theorem dX10_strengthIn_7 : decode cX10_strengthIn 7 = .ok (.iconst 0, 1) := by decide +kernel
theorem dX10_strengthIn_8 : decode cX10_strengthIn 8 = .ok (.istore_n 3, 1) := by decide +kernel
theorem dX10_strengthIn_9 : decode cX10_strengthIn 9 = .ok (.iload_n 3, 1) := by decide +kernel
theorem dX10_strengthIn_10 : decode cX10_strengthIn 10 = .ok (.iload_n 1, 1) := by decide +kernel
theorem dX10_strengthIn_11 : decode cX10_strengthIn 11 = .ok (.if_icmp .ge 23, 3) := by decide +kernel
theorem dX10_strengthIn_14 : decode cX10_strengthIn 14 = .ok (.iload_n 2, 1) := by decide +kernel
theorem dX10_strengthIn_15 : decode cX10_strengthIn 15 = .ok (.iload_n 2, 1) := by decide +kernel
theorem dX10_strengthIn_16 : decode cX10_strengthIn 16 = .ok (.aload_n 0, 1) := by decide +kernel
theorem dX10_strengthIn_17 : decode cX10_strengthIn 17 = .ok (.getfield 7, 3) := by decide +kernel
theorem dX10_strengthIn_20 : decode cX10_strengthIn 20 = .ok (.iconst 3, 1) := by decide +kernel
theorem dX10_strengthIn_21 : decode cX10_strengthIn 21 = .ok (.iaload, 1) := by decide +kernel
theorem dX10_strengthIn_22 : decode cX10_strengthIn 22 = .ok (.imul, 1) := by decide +kernel
theorem dX10_strengthIn_23 : decode cX10_strengthIn 23 = .ok (.bipush 100, 2) := by decide +kernel
theorem dX10_strengthIn_25 : decode cX10_strengthIn 25 = .ok (.idiv, 1) := by decide +kernel
theorem dX10_strengthIn_26 : decode cX10_strengthIn 26 = .ok (.isub, 1) := by decide +kernel
theorem dX10_strengthIn_27 : decode cX10_strengthIn 27 = .ok (.istore_n 2, 1) := by decide +kernel
theorem dX10_strengthIn_28 : decode cX10_strengthIn 28 = .ok (.iinc 3 1, 3) := by decide +kernel
theorem dX10_strengthIn_31 : decode cX10_strengthIn 31 = .ok (.goto (-22), 3) := by decide +kernel
theorem dX10_strengthIn_34 : decode cX10_strengthIn 34 = .ok (.iload_n 2, 1) := by decide +kernel
theorem dX10_strengthIn_35 : decode cX10_strengthIn 35 = .ok (.ireturn, 1) := by decide +kernel
theorem dX10_now_0 : decode cX10_now 0 = .ok (.iload_n 1, 1) := by decide +kernel
theorem dX10_now_1 : decode cX10_now 1 = .ok (.i2l, 1) := by decide +kernel
theorem dX10_now_2 : decode cX10_now 2 = .ok (.lconst 0, 1) := by decide +kernel
theorem dX10_now_3 : decode cX10_now 3 = .ok (.ldc2_w 208, 3) := by decide +kernel
theorem dX10_now_6 : decode cX10_now 6 = .ok (.invokestatic 81, 3) := by decide +kernel
theorem dX10_now_9 : decode cX10_now 9 = .ok (.ifCond .eq 10, 3) := by decide +kernel
theorem dX10_now_12 : decode cX10_now 12 = .ok (.aload_n 0, 1) := by decide +kernel
theorem dX10_now_13 : decode cX10_now 13 = .ok (.getfield 26, 3) := by decide +kernel
theorem dX10_now_16 : decode cX10_now 16 = .ok (.iload_n 1, 1) := by decide +kernel
theorem dX10_now_17 : decode cX10_now 17 = .ok (.iaload, 1) := by decide +kernel
theorem dX10_now_18 : decode cX10_now 18 = .ok (.ireturn, 1) := by decide +kernel
theorem dX10_now_19 : decode cX10_now 19 = .ok (.iload_n 1, 1) := by decide +kernel
theorem dX10_now_20 : decode cX10_now 20 = .ok (.iconst 5, 1) := by decide +kernel
theorem dX10_now_21 : decode cX10_now 21 = .ok (.if_icmp .ne 19, 3) := by decide +kernel
theorem dX10_now_24 : decode cX10_now 24 = .ok (.aload_n 0, 1) := by decide +kernel
theorem dX10_now_25 : decode cX10_now 25 = .ok (.getfield 7, 3) := by decide +kernel
theorem dX10_now_28 : decode cX10_now 28 = .ok (.iconst 1, 1) := by decide +kernel
theorem dX10_now_29 : decode cX10_now 29 = .ok (.iaload, 1) := by decide +kernel
theorem dX10_now_30 : decode cX10_now 30 = .ok (.aload_n 0, 1) := by decide +kernel
theorem dX10_now_31 : decode cX10_now 31 = .ok (.getfield 26, 3) := by decide +kernel
theorem dX10_now_34 : decode cX10_now 34 = .ok (.iconst 1, 1) := by decide +kernel
theorem dX10_now_35 : decode cX10_now 35 = .ok (.iaload, 1) := by decide +kernel
theorem dX10_now_36 : decode cX10_now 36 = .ok (.isub, 1) := by decide +kernel
theorem dX10_now_37 : decode cX10_now 37 = .ok (.goto 37, 3) := by decide +kernel
theorem dX10_now_40 : decode cX10_now 40 = .ok (.iload_n 1, 1) := by decide +kernel
theorem dX10_now_41 : decode cX10_now 41 = .ok (.bipush 6, 2) := by decide +kernel
theorem dX10_now_43 : decode cX10_now 43 = .ok (.if_icmp .ne 16, 3) := by decide +kernel
theorem dX10_now_46 : decode cX10_now 46 = .ok (.aload_n 0, 1) := by decide +kernel
theorem dX10_now_47 : decode cX10_now 47 = .ok (.aload_n 0, 1) := by decide +kernel
theorem dX10_now_48 : decode cX10_now 48 = .ok (.getfield 26, 3) := by decide +kernel
theorem dX10_now_51 : decode cX10_now 51 = .ok (.iconst 2, 1) := by decide +kernel
theorem dX10_now_52 : decode cX10_now 52 = .ok (.iaload, 1) := by decide +kernel
theorem dX10_now_53 : decode cX10_now 53 = .ok (.invokevirtual 213, 3) := by decide +kernel
theorem dX10_now_56 : decode cX10_now 56 = .ok (.goto 18, 3) := by decide +kernel
theorem dX10_now_59 : decode cX10_now 59 = .ok (.iload_n 1, 1) := by decide +kernel
theorem dX10_now_60 : decode cX10_now 60 = .ok (.bipush 7, 2) := by decide +kernel
theorem dX10_now_62 : decode cX10_now 62 = .ok (.if_icmp .ne 10, 3) := by decide +kernel
theorem dX10_now_65 : decode cX10_now 65 = .ok (.aload_n 0, 1) := by decide +kernel
theorem dX10_now_66 : decode cX10_now 66 = .ok (.invokevirtual 192, 3) := by decide +kernel
theorem dX10_now_69 : decode cX10_now 69 = .ok (.goto 5, 3) := by decide +kernel
theorem dX10_now_72 : decode cX10_now 72 = .ok (.ldc 87, 2) := by decide +kernel
theorem dX10_now_74 : decode cX10_now 74 = .ok (.ireturn, 1) := by decide +kernel
theorem dX10_size_0 : decode cX10_size 0 = .ok (.iload_n 0, 1) := by decide +kernel
theorem dX10_size_1 : decode cX10_size 1 = .ok (.ifCond .ge 8, 3) := by decide +kernel
theorem dX10_size_4 : decode cX10_size 4 = .ok (.iload_n 0, 1) := by decide +kernel
theorem dX10_size_5 : decode cX10_size 5 = .ok (.ineg, 1) := by decide +kernel
theorem dX10_size_6 : decode cX10_size 6 = .ok (.goto 4, 3) := by decide +kernel
theorem dX10_size_9 : decode cX10_size 9 = .ok (.iload_n 0, 1) := by decide +kernel
theorem dX10_size_10 : decode cX10_size 10 = .ok (.ireturn, 1) := by decide +kernel
theorem dX10_sineOf_0 : decode cX10_sineOf 0 = .ok (.iload_n 0, 1) := by decide +kernel
theorem dX10_sineOf_1 : decode cX10_sineOf 1 = .ok (.invokestatic 216, 3) := by decide +kernel
theorem dX10_sineOf_4 : decode cX10_sineOf 4 = .ok (.sipush 1800, 3) := by decide +kernel
theorem dX10_sineOf_7 : decode cX10_sineOf 7 = .ok (.if_icmp .le 9, 3) := by decide +kernel
theorem dX10_sineOf_10 : decode cX10_sineOf 10 = .ok (.sipush 1800, 3) := by decide +kernel
theorem dX10_sineOf_13 : decode cX10_sineOf 13 = .ok (.goto 7, 3) := by decide +kernel
theorem dX10_sineOf_16 : decode cX10_sineOf 16 = .ok (.iload_n 0, 1) := by decide +kernel
theorem dX10_sineOf_17 : decode cX10_sineOf 17 = .ok (.invokestatic 216, 3) := by decide +kernel
theorem dX10_sineOf_20 : decode cX10_sineOf 20 = .ok (.istore_n 1, 1) := by decide +kernel
theorem dX10_sineOf_21 : decode cX10_sineOf 21 = .ok (.iload_n 1, 1) := by decide +kernel
theorem dX10_sineOf_22 : decode cX10_sineOf 22 = .ok (.i2l, 1) := by decide +kernel
theorem dX10_sineOf_23 : decode cX10_sineOf 23 = .ok (.sipush 1800, 3) := by decide +kernel
theorem dX10_sineOf_26 : decode cX10_sineOf 26 = .ok (.iload_n 1, 1) := by decide +kernel
theorem dX10_sineOf_27 : decode cX10_sineOf 27 = .ok (.isub, 1) := by decide +kernel
theorem dX10_sineOf_28 : decode cX10_sineOf 28 = .ok (.i2l, 1) := by decide +kernel
theorem dX10_sineOf_29 : decode cX10_sineOf 29 = .ok (.lmul, 1) := by decide +kernel
theorem dX10_sineOf_30 : decode cX10_sineOf 30 = .ok (.lstore_n 2, 1) := by decide +kernel
theorem dX10_sineOf_31 : decode cX10_sineOf 31 = .ok (.ldc2_w 219, 3) := by decide +kernel
theorem dX10_sineOf_34 : decode cX10_sineOf 34 = .ok (.lload_n 2, 1) := by decide +kernel
theorem dX10_sineOf_35 : decode cX10_sineOf 35 = .ok (.lmul, 1) := by decide +kernel
theorem dX10_sineOf_36 : decode cX10_sineOf 36 = .ok (.ldc2_w 221, 3) := by decide +kernel
theorem dX10_sineOf_39 : decode cX10_sineOf 39 = .ok (.lload_n 2, 1) := by decide +kernel
theorem dX10_sineOf_40 : decode cX10_sineOf 40 = .ok (.lsub, 1) := by decide +kernel
theorem dX10_sineOf_41 : decode cX10_sineOf 41 = .ok (.ldiv, 1) := by decide +kernel
theorem dX10_sineOf_42 : decode cX10_sineOf 42 = .ok (.l2i, 1) := by decide +kernel
theorem dX10_sineOf_43 : decode cX10_sineOf 43 = .ok (.istore 4, 2) := by decide +kernel
theorem dX10_sineOf_45 : decode cX10_sineOf 45 = .ok (.iload_n 0, 1) := by decide +kernel
theorem dX10_sineOf_46 : decode cX10_sineOf 46 = .ok (.ifCond .ge 9, 3) := by decide +kernel
theorem dX10_sineOf_49 : decode cX10_sineOf 49 = .ok (.iload 4, 2) := by decide +kernel
theorem dX10_sineOf_51 : decode cX10_sineOf 51 = .ok (.ineg, 1) := by decide +kernel
theorem dX10_sineOf_52 : decode cX10_sineOf 52 = .ok (.goto 5, 3) := by decide +kernel
theorem dX10_sineOf_55 : decode cX10_sineOf 55 = .ok (.iload 4, 2) := by decide +kernel
theorem dX10_sineOf_57 : decode cX10_sineOf 57 = .ok (.ireturn, 1) := by decide +kernel
theorem dX10_cosineOf_0 : decode cX10_cosineOf 0 = .ok (.sipush 900, 3) := by decide +kernel
theorem dX10_cosineOf_3 : decode cX10_cosineOf 3 = .ok (.iload_n 0, 1) := by decide +kernel
theorem dX10_cosineOf_4 : decode cX10_cosineOf 4 = .ok (.invokestatic 216, 3) := by decide +kernel
theorem dX10_cosineOf_7 : decode cX10_cosineOf 7 = .ok (.sipush 1800, 3) := by decide +kernel
theorem dX10_cosineOf_10 : decode cX10_cosineOf 10 = .ok (.if_icmp .le 9, 3) := by decide +kernel
theorem dX10_cosineOf_13 : decode cX10_cosineOf 13 = .ok (.sipush 1800, 3) := by decide +kernel
theorem dX10_cosineOf_16 : decode cX10_cosineOf 16 = .ok (.goto 7, 3) := by decide +kernel
theorem dX10_cosineOf_19 : decode cX10_cosineOf 19 = .ok (.iload_n 0, 1) := by decide +kernel
theorem dX10_cosineOf_20 : decode cX10_cosineOf 20 = .ok (.invokestatic 216, 3) := by decide +kernel
theorem dX10_cosineOf_23 : decode cX10_cosineOf 23 = .ok (.isub, 1) := by decide +kernel
theorem dX10_cosineOf_24 : decode cX10_cosineOf 24 = .ok (.invokestatic 223, 3) := by decide +kernel
theorem dX10_cosineOf_27 : decode cX10_cosineOf 27 = .ok (.ireturn, 1) := by decide +kernel
theorem dX10_sine_0 : decode cX10_sine 0 = .ok (.iload_n 1, 1) := by decide +kernel
theorem dX10_sine_1 : decode cX10_sine 1 = .ok (.i2l, 1) := by decide +kernel
theorem dX10_sine_2 : decode cX10_sine 2 = .ok (.ldc2_w 226, 3) := by decide +kernel
theorem dX10_sine_5 : decode cX10_sine 5 = .ok (.ldc2_w 228, 3) := by decide +kernel
theorem dX10_sine_8 : decode cX10_sine 8 = .ok (.invokestatic 81, 3) := by decide +kernel
theorem dX10_sine_11 : decode cX10_sine 11 = .ok (.ifCond .eq 10, 3) := by decide +kernel
theorem dX10_sine_14 : decode cX10_sine 14 = .ok (.iload_n 1, 1) := by decide +kernel
theorem dX10_sine_15 : decode cX10_sine 15 = .ok (.invokestatic 223, 3) := by decide +kernel
theorem dX10_sine_18 : decode cX10_sine 18 = .ok (.goto 5, 3) := by decide +kernel
theorem dX10_sine_21 : decode cX10_sine 21 = .ok (.ldc 87, 2) := by decide +kernel
theorem dX10_sine_23 : decode cX10_sine 23 = .ok (.ireturn, 1) := by decide +kernel
theorem dX10_useHand_0 : decode cX10_useHand 0 = .ok (.aload_n 0, 1) := by decide +kernel
theorem dX10_useHand_1 : decode cX10_useHand 1 = .ok (.aload_n 0, 1) := by decide +kernel
theorem dX10_useHand_2 : decode cX10_useHand 2 = .ok (.getfield 7, 3) := by decide +kernel
theorem dX10_useHand_5 : decode cX10_useHand 5 = .ok (.iconst 1, 1) := by decide +kernel
theorem dX10_useHand_6 : decode cX10_useHand 6 = .ok (.iaload, 1) := by decide +kernel
theorem dX10_useHand_7 : decode cX10_useHand 7 = .ok (.aload_n 0, 1) := by decide +kernel
theorem dX10_useHand_8 : decode cX10_useHand 8 = .ok (.getfield 26, 3) := by decide +kernel
theorem dX10_useHand_11 : decode cX10_useHand 11 = .ok (.iconst 1, 1) := by decide +kernel
theorem dX10_useHand_12 : decode cX10_useHand 12 = .ok (.iaload, 1) := by decide +kernel
theorem dX10_useHand_13 : decode cX10_useHand 13 = .ok (.isub, 1) := by decide +kernel
theorem dX10_useHand_14 : decode cX10_useHand 14 = .ok (.putfield 230, 3) := by decide +kernel
theorem dX10_useHand_17 : decode cX10_useHand 17 = .ok (.aload_n 0, 1) := by decide +kernel
theorem dX10_useHand_18 : decode cX10_useHand 18 = .ok (.aload_n 0, 1) := by decide +kernel
theorem dX10_useHand_19 : decode cX10_useHand 19 = .ok (.getfield 26, 3) := by decide +kernel
theorem dX10_useHand_22 : decode cX10_useHand 22 = .ok (.iconst 4, 1) := by decide +kernel
theorem dX10_useHand_23 : decode cX10_useHand 23 = .ok (.iaload, 1) := by decide +kernel
theorem dX10_useHand_24 : decode cX10_useHand 24 = .ok (.putfield 233, 3) := by decide +kernel
theorem dX10_useHand_27 : decode cX10_useHand 27 = .ok (.aload_n 0, 1) := by decide +kernel
theorem dX10_useHand_28 : decode cX10_useHand 28 = .ok (.aload_n 0, 1) := by decide +kernel
theorem dX10_useHand_29 : decode cX10_useHand 29 = .ok (.aload_n 0, 1) := by decide +kernel
theorem dX10_useHand_30 : decode cX10_useHand 30 = .ok (.getfield 26, 3) := by decide +kernel
theorem dX10_useHand_33 : decode cX10_useHand 33 = .ok (.iconst 2, 1) := by decide +kernel
theorem dX10_useHand_34 : decode cX10_useHand 34 = .ok (.iaload, 1) := by decide +kernel
theorem dX10_useHand_35 : decode cX10_useHand 35 = .ok (.invokevirtual 213, 3) := by decide +kernel
theorem dX10_useHand_38 : decode cX10_useHand 38 = .ok (.putfield 236, 3) := by decide +kernel
theorem dX10_useHand_41 : decode cX10_useHand 41 = .ok (.return_, 1) := by decide +kernel
theorem dX10_usePerson_0 : decode cX10_usePerson 0 = .ok (.aload_n 0, 1) := by decide +kernel
theorem dX10_usePerson_1 : decode cX10_usePerson 1 = .ok (.aload_n 0, 1) := by decide +kernel
theorem dX10_usePerson_2 : decode cX10_usePerson 2 = .ok (.getfield 23, 3) := by decide +kernel
theorem dX10_usePerson_5 : decode cX10_usePerson 5 = .ok (.iconst 5, 1) := by decide +kernel
theorem dX10_usePerson_6 : decode cX10_usePerson 6 = .ok (.iload_n 1, 1) := by decide +kernel
theorem dX10_usePerson_7 : decode cX10_usePerson 7 = .ok (.imul, 1) := by decide +kernel
theorem dX10_usePerson_8 : decode cX10_usePerson 8 = .ok (.iaload, 1) := by decide +kernel
theorem dX10_usePerson_9 : decode cX10_usePerson 9 = .ok (.putfield 239, 3) := by decide +kernel
theorem dX10_usePerson_12 : decode cX10_usePerson 12 = .ok (.aload_n 0, 1) := by decide +kernel
theorem dX10_usePerson_13 : decode cX10_usePerson 13 = .ok (.aload_n 0, 1) := by decide +kernel
theorem dX10_usePerson_14 : decode cX10_usePerson 14 = .ok (.getfield 23, 3) := by decide +kernel
theorem dX10_usePerson_17 : decode cX10_usePerson 17 = .ok (.iconst 5, 1) := by decide +kernel
theorem dX10_usePerson_18 : decode cX10_usePerson 18 = .ok (.iload_n 1, 1) := by decide +kernel
theorem dX10_usePerson_19 : decode cX10_usePerson 19 = .ok (.imul, 1) := by decide +kernel
theorem dX10_usePerson_20 : decode cX10_usePerson 20 = .ok (.iconst 1, 1) := by decide +kernel
theorem dX10_usePerson_21 : decode cX10_usePerson 21 = .ok (.iadd, 1) := by decide +kernel
theorem dX10_usePerson_22 : decode cX10_usePerson 22 = .ok (.iaload, 1) := by decide +kernel
theorem dX10_usePerson_23 : decode cX10_usePerson 23 = .ok (.putfield 242, 3) := by decide +kernel
theorem dX10_usePerson_26 : decode cX10_usePerson 26 = .ok (.aload_n 0, 1) := by decide +kernel
theorem dX10_usePerson_27 : decode cX10_usePerson 27 = .ok (.aload_n 0, 1) := by decide +kernel
theorem dX10_usePerson_28 : decode cX10_usePerson 28 = .ok (.getfield 23, 3) := by decide +kernel
theorem dX10_usePerson_31 : decode cX10_usePerson 31 = .ok (.iconst 5, 1) := by decide +kernel
theorem dX10_usePerson_32 : decode cX10_usePerson 32 = .ok (.iload_n 1, 1) := by decide +kernel
theorem dX10_usePerson_33 : decode cX10_usePerson 33 = .ok (.imul, 1) := by decide +kernel
theorem dX10_usePerson_34 : decode cX10_usePerson 34 = .ok (.iconst 2, 1) := by decide +kernel
theorem dX10_usePerson_35 : decode cX10_usePerson 35 = .ok (.iadd, 1) := by decide +kernel
theorem dX10_usePerson_36 : decode cX10_usePerson 36 = .ok (.iaload, 1) := by decide +kernel
theorem dX10_usePerson_37 : decode cX10_usePerson 37 = .ok (.putfield 245, 3) := by decide +kernel
theorem dX10_usePerson_40 : decode cX10_usePerson 40 = .ok (.aload_n 0, 1) := by decide +kernel
theorem dX10_usePerson_41 : decode cX10_usePerson 41 = .ok (.aload_n 0, 1) := by decide +kernel
theorem dX10_usePerson_42 : decode cX10_usePerson 42 = .ok (.getfield 23, 3) := by decide +kernel
theorem dX10_usePerson_45 : decode cX10_usePerson 45 = .ok (.iconst 5, 1) := by decide +kernel
theorem dX10_usePerson_46 : decode cX10_usePerson 46 = .ok (.iload_n 1, 1) := by decide +kernel
theorem dX10_usePerson_47 : decode cX10_usePerson 47 = .ok (.imul, 1) := by decide +kernel
theorem dX10_usePerson_48 : decode cX10_usePerson 48 = .ok (.iconst 3, 1) := by decide +kernel
theorem dX10_usePerson_49 : decode cX10_usePerson 49 = .ok (.iadd, 1) := by decide +kernel
theorem dX10_usePerson_50 : decode cX10_usePerson 50 = .ok (.iaload, 1) := by decide +kernel
theorem dX10_usePerson_51 : decode cX10_usePerson 51 = .ok (.putfield 248, 3) := by decide +kernel
theorem dX10_usePerson_54 : decode cX10_usePerson 54 = .ok (.aload_n 0, 1) := by decide +kernel
theorem dX10_usePerson_55 : decode cX10_usePerson 55 = .ok (.aload_n 0, 1) := by decide +kernel
theorem dX10_usePerson_56 : decode cX10_usePerson 56 = .ok (.getfield 23, 3) := by decide +kernel
theorem dX10_usePerson_59 : decode cX10_usePerson 59 = .ok (.iconst 5, 1) := by decide +kernel
theorem dX10_usePerson_60 : decode cX10_usePerson 60 = .ok (.iload_n 1, 1) := by decide +kernel
theorem dX10_usePerson_61 : decode cX10_usePerson 61 = .ok (.imul, 1) := by decide +kernel
theorem dX10_usePerson_62 : decode cX10_usePerson 62 = .ok (.iconst 4, 1) := by decide +kernel
theorem dX10_usePerson_63 : decode cX10_usePerson 63 = .ok (.iadd, 1) := by decide +kernel
theorem dX10_usePerson_64 : decode cX10_usePerson 64 = .ok (.iaload, 1) := by decide +kernel
theorem dX10_usePerson_65 : decode cX10_usePerson 65 = .ok (.putfield 251, 3) := by decide +kernel
theorem dX10_usePerson_68 : decode cX10_usePerson 68 = .ok (.return_, 1) := by decide +kernel
theorem dX10_pullOf_0 : decode cX10_pullOf 0 = .ok (.iload_n 1, 1) := by decide +kernel
theorem dX10_pullOf_1 : decode cX10_pullOf 1 = .ok (.i2l, 1) := by decide +kernel
theorem dX10_pullOf_2 : decode cX10_pullOf 2 = .ok (.iload_n 2, 1) := by decide +kernel
theorem dX10_pullOf_3 : decode cX10_pullOf 3 = .ok (.bipush 100, 2) := by decide +kernel
theorem dX10_pullOf_5 : decode cX10_pullOf 5 = .ok (.idiv, 1) := by decide +kernel
theorem dX10_pullOf_6 : decode cX10_pullOf 6 = .ok (.invokestatic 254, 3) := by decide +kernel
theorem dX10_pullOf_9 : decode cX10_pullOf 9 = .ok (.bipush 10, 2) := by decide +kernel
theorem dX10_pullOf_11 : decode cX10_pullOf 11 = .ok (.idiv, 1) := by decide +kernel
theorem dX10_pullOf_12 : decode cX10_pullOf 12 = .ok (.i2l, 1) := by decide +kernel
theorem dX10_pullOf_13 : decode cX10_pullOf 13 = .ok (.iload_n 3, 1) := by decide +kernel
theorem dX10_pullOf_14 : decode cX10_pullOf 14 = .ok (.i2l, 1) := by decide +kernel
theorem dX10_pullOf_15 : decode cX10_pullOf 15 = .ok (.iload_n 3, 1) := by decide +kernel
theorem dX10_pullOf_16 : decode cX10_pullOf 16 = .ok (.i2l, 1) := by decide +kernel
theorem dX10_pullOf_17 : decode cX10_pullOf 17 = .ok (.lmul, 1) := by decide +kernel
theorem dX10_pullOf_18 : decode cX10_pullOf 18 = .ok (.aload_n 0, 1) := by decide +kernel
theorem dX10_pullOf_19 : decode cX10_pullOf 19 = .ok (.getfield 230, 3) := by decide +kernel
theorem dX10_pullOf_22 : decode cX10_pullOf 22 = .ok (.i2l, 1) := by decide +kernel
theorem dX10_pullOf_23 : decode cX10_pullOf 23 = .ok (.lmul, 1) := by decide +kernel
theorem dX10_pullOf_24 : decode cX10_pullOf 24 = .ok (.ldc2_w 257, 3) := by decide +kernel
theorem dX10_pullOf_27 : decode cX10_pullOf 27 = .ok (.ldiv, 1) := by decide +kernel
theorem dX10_pullOf_28 : decode cX10_pullOf 28 = .ok (.ladd, 1) := by decide +kernel
theorem dX10_pullOf_29 : decode cX10_pullOf 29 = .ok (.lmul, 1) := by decide +kernel
theorem dX10_pullOf_30 : decode cX10_pullOf 30 = .ok (.ldc2_w 259, 3) := by decide +kernel
theorem dX10_pullOf_33 : decode cX10_pullOf 33 = .ok (.ldiv, 1) := by decide +kernel
theorem dX10_pullOf_34 : decode cX10_pullOf 34 = .ok (.lstore 4, 2) := by decide +kernel
theorem dX10_pullOf_36 : decode cX10_pullOf 36 = .ok (.lload 4, 2) := by decide +kernel
theorem dX10_pullOf_38 : decode cX10_pullOf 38 = .ok (.lconst 0, 1) := by decide +kernel
theorem dX10_pullOf_39 : decode cX10_pullOf 39 = .ok (.lcmp, 1) := by decide +kernel
theorem dX10_pullOf_40 : decode cX10_pullOf 40 = .ok (.ifCond .ge 7, 3) := by decide +kernel
theorem dX10_pullOf_43 : decode cX10_pullOf 43 = .ok (.iconst 0, 1) := by decide +kernel
theorem dX10_pullOf_44 : decode cX10_pullOf 44 = .ok (.goto 6, 3) := by decide +kernel
theorem dX10_pullOf_47 : decode cX10_pullOf 47 = .ok (.lload 4, 2) := by decide +kernel
theorem dX10_pullOf_49 : decode cX10_pullOf 49 = .ok (.l2i, 1) := by decide +kernel
theorem dX10_pullOf_50 : decode cX10_pullOf 50 = .ok (.ireturn, 1) := by decide +kernel
theorem dX10_swing_0 : decode cX10_swing 0 = .ok (.aload_n 0, 1) := by decide +kernel
theorem dX10_swing_1 : decode cX10_swing 1 = .ok (.getfield 48, 3) := by decide +kernel
theorem dX10_swing_4 : decode cX10_swing 4 = .ok (.iconst 0, 1) := by decide +kernel
theorem dX10_swing_5 : decode cX10_swing 5 = .ok (.sipush (-1000), 3) := by decide +kernel
theorem dX10_swing_8 : decode cX10_swing 8 = .ok (.aload_n 0, 1) := by decide +kernel
theorem dX10_swing_9 : decode cX10_swing 9 = .ok (.getfield 26, 3) := by decide +kernel
theorem dX10_swing_12 : decode cX10_swing 12 = .ok (.iconst 3, 1) := by decide +kernel
theorem dX10_swing_13 : decode cX10_swing 13 = .ok (.iaload, 1) := by decide +kernel
theorem dX10_swing_14 : decode cX10_swing 14 = .ok (.imul, 1) := by decide +kernel
theorem dX10_swing_15 : decode cX10_swing 15 = .ok (.iastore, 1) := by decide +kernel
theorem dX10_swing_16 : decode cX10_swing 16 = .ok (.aload_n 0, 1) := by decide +kernel
theorem dX10_swing_17 : decode cX10_swing 17 = .ok (.getfield 51, 3) := by decide +kernel
theorem dX10_swing_20 : decode cX10_swing 20 = .ok (.iconst 0, 1) := by decide +kernel
theorem dX10_swing_21 : decode cX10_swing 21 = .ok (.sipush 2865, 3) := by decide +kernel
theorem dX10_swing_24 : decode cX10_swing 24 = .ok (.aload_n 0, 1) := by decide +kernel
theorem dX10_swing_25 : decode cX10_swing 25 = .ok (.getfield 233, 3) := by decide +kernel
theorem dX10_swing_28 : decode cX10_swing 28 = .ok (.imul, 1) := by decide +kernel
theorem dX10_swing_29 : decode cX10_swing 29 = .ok (.aload_n 0, 1) := by decide +kernel
theorem dX10_swing_30 : decode cX10_swing 30 = .ok (.getfield 230, 3) := by decide +kernel
theorem dX10_swing_33 : decode cX10_swing 33 = .ok (.idiv, 1) := by decide +kernel
theorem dX10_swing_34 : decode cX10_swing 34 = .ok (.iastore, 1) := by decide +kernel
theorem dX10_swing_35 : decode cX10_swing 35 = .ok (.aload_n 0, 1) := by decide +kernel
theorem dX10_swing_36 : decode cX10_swing 36 = .ok (.getfield 54, 3) := by decide +kernel
theorem dX10_swing_39 : decode cX10_swing 39 = .ok (.iconst 0, 1) := by decide +kernel
theorem dX10_swing_40 : decode cX10_swing 40 = .ok (.iconst 0, 1) := by decide +kernel
theorem dX10_swing_41 : decode cX10_swing 41 = .ok (.iastore, 1) := by decide +kernel
theorem dX10_swing_42 : decode cX10_swing 42 = .ok (.aload_n 0, 1) := by decide +kernel
theorem dX10_swing_43 : decode cX10_swing 43 = .ok (.getfield 57, 3) := by decide +kernel
theorem dX10_swing_46 : decode cX10_swing 46 = .ok (.iconst 0, 1) := by decide +kernel
theorem dX10_swing_47 : decode cX10_swing 47 = .ok (.sipush 1000, 3) := by decide +kernel
theorem dX10_swing_50 : decode cX10_swing 50 = .ok (.iastore, 1) := by decide +kernel
theorem dX10_swing_51 : decode cX10_swing 51 = .ok (.iconst 1, 1) := by decide +kernel
theorem dX10_swing_52 : decode cX10_swing 52 = .ok (.istore_n 1, 1) := by decide +kernel
theorem dX10_swing_53 : decode cX10_swing 53 = .ok (.iload_n 1, 1) := by decide +kernel
theorem dX10_swing_54 : decode cX10_swing 54 = .ok (.sipush 200, 3) := by decide +kernel
theorem dX10_swing_57 : decode cX10_swing 57 = .ok (.if_icmp .gt 123, 3) := by decide +kernel
theorem dX10_swing_60 : decode cX10_swing 60 = .ok (.aload_n 0, 1) := by decide +kernel
theorem dX10_swing_61 : decode cX10_swing 61 = .ok (.getfield 51, 3) := by decide +kernel
theorem dX10_swing_64 : decode cX10_swing 64 = .ok (.iload_n 1, 1) := by decide +kernel
theorem dX10_swing_65 : decode cX10_swing 65 = .ok (.aload_n 0, 1) := by decide +kernel
theorem dX10_swing_66 : decode cX10_swing 66 = .ok (.getfield 51, 3) := by decide +kernel
theorem dX10_swing_69 : decode cX10_swing 69 = .ok (.iload_n 1, 1) := by decide +kernel
theorem dX10_swing_70 : decode cX10_swing 70 = .ok (.iconst 1, 1) := by decide +kernel
theorem dX10_swing_71 : decode cX10_swing 71 = .ok (.isub, 1) := by decide +kernel
theorem dX10_swing_72 : decode cX10_swing 72 = .ok (.iaload, 1) := by decide +kernel
theorem dX10_swing_73 : decode cX10_swing 73 = .ok (.sipush 140, 3) := by decide +kernel
theorem dX10_swing_76 : decode cX10_swing 76 = .ok (.aload_n 0, 1) := by decide +kernel
theorem dX10_swing_77 : decode cX10_swing 77 = .ok (.getfield 48, 3) := by decide +kernel
theorem dX10_swing_80 : decode cX10_swing 80 = .ok (.iload_n 1, 1) := by decide +kernel
theorem dX10_swing_81 : decode cX10_swing 81 = .ok (.iconst 1, 1) := by decide +kernel
theorem dX10_swing_82 : decode cX10_swing 82 = .ok (.isub, 1) := by decide +kernel
theorem dX10_swing_83 : decode cX10_swing 83 = .ok (.iaload, 1) := by decide +kernel
theorem dX10_swing_84 : decode cX10_swing 84 = .ok (.bipush 100, 2) := by decide +kernel
theorem dX10_swing_86 : decode cX10_swing 86 = .ok (.idiv, 1) := by decide +kernel
theorem dX10_swing_87 : decode cX10_swing 87 = .ok (.invokestatic 223, 3) := by decide +kernel
theorem dX10_swing_90 : decode cX10_swing 90 = .ok (.imul, 1) := by decide +kernel
theorem dX10_swing_91 : decode cX10_swing 91 = .ok (.aload_n 0, 1) := by decide +kernel
theorem dX10_swing_92 : decode cX10_swing 92 = .ok (.getfield 230, 3) := by decide +kernel
theorem dX10_swing_95 : decode cX10_swing 95 = .ok (.idiv, 1) := by decide +kernel
theorem dX10_swing_96 : decode cX10_swing 96 = .ok (.isub, 1) := by decide +kernel
theorem dX10_swing_97 : decode cX10_swing 97 = .ok (.iastore, 1) := by decide +kernel
theorem dX10_swing_98 : decode cX10_swing 98 = .ok (.aload_n 0, 1) := by decide +kernel
theorem dX10_swing_99 : decode cX10_swing 99 = .ok (.getfield 48, 3) := by decide +kernel
theorem dX10_swing_102 : decode cX10_swing 102 = .ok (.iload_n 1, 1) := by decide +kernel
theorem dX10_swing_103 : decode cX10_swing 103 = .ok (.aload_n 0, 1) := by decide +kernel
theorem dX10_swing_104 : decode cX10_swing 104 = .ok (.getfield 48, 3) := by decide +kernel
theorem dX10_swing_107 : decode cX10_swing 107 = .ok (.iload_n 1, 1) := by decide +kernel
theorem dX10_swing_108 : decode cX10_swing 108 = .ok (.iconst 1, 1) := by decide +kernel
theorem dX10_swing_109 : decode cX10_swing 109 = .ok (.isub, 1) := by decide +kernel
theorem dX10_swing_110 : decode cX10_swing 110 = .ok (.iaload, 1) := by decide +kernel
theorem dX10_swing_111 : decode cX10_swing 111 = .ok (.aload_n 0, 1) := by decide +kernel
theorem dX10_swing_112 : decode cX10_swing 112 = .ok (.getfield 51, 3) := by decide +kernel
theorem dX10_swing_115 : decode cX10_swing 115 = .ok (.iload_n 1, 1) := by decide +kernel
theorem dX10_swing_116 : decode cX10_swing 116 = .ok (.iaload, 1) := by decide +kernel
theorem dX10_swing_117 : decode cX10_swing 117 = .ok (.iadd, 1) := by decide +kernel
theorem dX10_swing_118 : decode cX10_swing 118 = .ok (.iastore, 1) := by decide +kernel
theorem dX10_swing_119 : decode cX10_swing 119 = .ok (.aload_n 0, 1) := by decide +kernel
theorem dX10_swing_120 : decode cX10_swing 120 = .ok (.getfield 54, 3) := by decide +kernel
theorem dX10_swing_123 : decode cX10_swing 123 = .ok (.iload_n 1, 1) := by decide +kernel
theorem dX10_swing_124 : decode cX10_swing 124 = .ok (.aload_n 0, 1) := by decide +kernel
theorem dX10_swing_125 : decode cX10_swing 125 = .ok (.aload_n 0, 1) := by decide +kernel
theorem dX10_swing_126 : decode cX10_swing 126 = .ok (.getfield 239, 3) := by decide +kernel
theorem dX10_swing_129 : decode cX10_swing 129 = .ok (.aload_n 0, 1) := by decide +kernel
theorem dX10_swing_130 : decode cX10_swing 130 = .ok (.getfield 48, 3) := by decide +kernel
theorem dX10_swing_133 : decode cX10_swing 133 = .ok (.iload_n 1, 1) := by decide +kernel
theorem dX10_swing_134 : decode cX10_swing 134 = .ok (.iaload, 1) := by decide +kernel
theorem dX10_swing_135 : decode cX10_swing 135 = .ok (.aload_n 0, 1) := by decide +kernel
theorem dX10_swing_136 : decode cX10_swing 136 = .ok (.getfield 51, 3) := by decide +kernel
theorem dX10_swing_139 : decode cX10_swing 139 = .ok (.iload_n 1, 1) := by decide +kernel
theorem dX10_swing_140 : decode cX10_swing 140 = .ok (.iaload, 1) := by decide +kernel
theorem dX10_swing_141 : decode cX10_swing 141 = .ok (.invokevirtual 261, 3) := by decide +kernel
theorem dX10_swing_144 : decode cX10_swing 144 = .ok (.iastore, 1) := by decide +kernel
theorem dX10_swing_145 : decode cX10_swing 145 = .ok (.aload_n 0, 1) := by decide +kernel
theorem dX10_swing_146 : decode cX10_swing 146 = .ok (.getfield 57, 3) := by decide +kernel
theorem dX10_swing_149 : decode cX10_swing 149 = .ok (.iload_n 1, 1) := by decide +kernel
theorem dX10_swing_150 : decode cX10_swing 150 = .ok (.aload_n 0, 1) := by decide +kernel
theorem dX10_swing_151 : decode cX10_swing 151 = .ok (.getfield 57, 3) := by decide +kernel
theorem dX10_swing_154 : decode cX10_swing 154 = .ok (.iload_n 1, 1) := by decide +kernel
theorem dX10_swing_155 : decode cX10_swing 155 = .ok (.iconst 1, 1) := by decide +kernel
theorem dX10_swing_156 : decode cX10_swing 156 = .ok (.isub, 1) := by decide +kernel
theorem dX10_swing_157 : decode cX10_swing 157 = .ok (.iaload, 1) := by decide +kernel
theorem dX10_swing_158 : decode cX10_swing 158 = .ok (.aload_n 0, 1) := by decide +kernel
theorem dX10_swing_159 : decode cX10_swing 159 = .ok (.getfield 54, 3) := by decide +kernel
theorem dX10_swing_162 : decode cX10_swing 162 = .ok (.iload_n 1, 1) := by decide +kernel
theorem dX10_swing_163 : decode cX10_swing 163 = .ok (.iaload, 1) := by decide +kernel
theorem dX10_swing_164 : decode cX10_swing 164 = .ok (.bipush 20, 2) := by decide +kernel
theorem dX10_swing_166 : decode cX10_swing 166 = .ok (.imul, 1) := by decide +kernel
theorem dX10_swing_167 : decode cX10_swing 167 = .ok (.aload_n 0, 1) := by decide +kernel
theorem dX10_swing_168 : decode cX10_swing 168 = .ok (.getfield 245, 3) := by decide +kernel
theorem dX10_swing_171 : decode cX10_swing 171 = .ok (.idiv, 1) := by decide +kernel
theorem dX10_swing_172 : decode cX10_swing 172 = .ok (.isub, 1) := by decide +kernel
theorem dX10_swing_173 : decode cX10_swing 173 = .ok (.iastore, 1) := by decide +kernel
theorem dX10_swing_174 : decode cX10_swing 174 = .ok (.iinc 1 1, 3) := by decide +kernel
theorem dX10_swing_177 : decode cX10_swing 177 = .ok (.goto (-124), 3) := by decide +kernel
theorem dX10_swing_180 : decode cX10_swing 180 = .ok (.return_, 1) := by decide +kernel
theorem dX10_handsX_0 : decode cX10_handsX 0 = .ok (.aload_n 0, 1) := by decide +kernel
theorem dX10_handsX_1 : decode cX10_handsX 1 = .ok (.getfield 230, 3) := by decide +kernel
theorem dX10_handsX_4 : decode cX10_handsX 4 = .ok (.aload_n 0, 1) := by decide +kernel
theorem dX10_handsX_5 : decode cX10_handsX 5 = .ok (.getfield 48, 3) := by decide +kernel
theorem dX10_handsX_8 : decode cX10_handsX 8 = .ok (.iload_n 1, 1) := by decide +kernel
theorem dX10_handsX_9 : decode cX10_handsX 9 = .ok (.iaload, 1) := by decide +kernel
theorem dX10_handsX_10 : decode cX10_handsX 10 = .ok (.bipush 100, 2) := by decide +kernel
theorem dX10_handsX_12 : decode cX10_handsX 12 = .ok (.idiv, 1) := by decide +kernel
theorem dX10_handsX_13 : decode cX10_handsX 13 = .ok (.invokestatic 223, 3) := by decide +kernel
theorem dX10_handsX_16 : decode cX10_handsX 16 = .ok (.imul, 1) := by decide +kernel
theorem dX10_handsX_17 : decode cX10_handsX 17 = .ok (.sipush 1000, 3) := by decide +kernel
theorem dX10_handsX_20 : decode cX10_handsX 20 = .ok (.idiv, 1) := by decide +kernel
theorem dX10_handsX_21 : decode cX10_handsX 21 = .ok (.ireturn, 1) := by decide +kernel
theorem dX10_handsHeight_0 : decode cX10_handsHeight 0 = .ok (.aload_n 0, 1) := by decide +kernel
theorem dX10_handsHeight_1 : decode cX10_handsHeight 1 = .ok (.getfield 7, 3) := by decide +kernel
theorem dX10_handsHeight_4 : decode cX10_handsHeight 4 = .ok (.iconst 0, 1) := by decide +kernel
theorem dX10_handsHeight_5 : decode cX10_handsHeight 5 = .ok (.iaload, 1) := by decide +kernel
theorem dX10_handsHeight_6 : decode cX10_handsHeight 6 = .ok (.aload_n 0, 1) := by decide +kernel
theorem dX10_handsHeight_7 : decode cX10_handsHeight 7 = .ok (.getfield 230, 3) := by decide +kernel
theorem dX10_handsHeight_10 : decode cX10_handsHeight 10 = .ok (.aload_n 0, 1) := by decide +kernel
theorem dX10_handsHeight_11 : decode cX10_handsHeight 11 = .ok (.getfield 48, 3) := by decide +kernel
theorem dX10_handsHeight_14 : decode cX10_handsHeight 14 = .ok (.iload_n 1, 1) := by decide +kernel
theorem dX10_handsHeight_15 : decode cX10_handsHeight 15 = .ok (.iaload, 1) := by decide +kernel
theorem dX10_handsHeight_16 : decode cX10_handsHeight 16 = .ok (.bipush 100, 2) := by decide +kernel
theorem dX10_handsHeight_18 : decode cX10_handsHeight 18 = .ok (.idiv, 1) := by decide +kernel
theorem dX10_handsHeight_19 : decode cX10_handsHeight 19 = .ok (.invokestatic 254, 3) := by decide +kernel
theorem dX10_handsHeight_22 : decode cX10_handsHeight 22 = .ok (.imul, 1) := by decide +kernel
theorem dX10_handsHeight_23 : decode cX10_handsHeight 23 = .ok (.sipush 1000, 3) := by decide +kernel
theorem dX10_handsHeight_26 : decode cX10_handsHeight 26 = .ok (.idiv, 1) := by decide +kernel
theorem dX10_handsHeight_27 : decode cX10_handsHeight 27 = .ok (.isub, 1) := by decide +kernel
theorem dX10_handsHeight_28 : decode cX10_handsHeight 28 = .ok (.ireturn, 1) := by decide +kernel
theorem dX10_holds_0 : decode cX10_holds 0 = .ok (.aload_n 0, 1) := by decide +kernel
theorem dX10_holds_1 : decode cX10_holds 1 = .ok (.iload_n 1, 1) := by decide +kernel
theorem dX10_holds_2 : decode cX10_holds 2 = .ok (.invokevirtual 204, 3) := by decide +kernel
theorem dX10_holds_5 : decode cX10_holds 5 = .ok (.ifCond .ne 6, 3) := by decide +kernel
theorem dX10_holds_8 : decode cX10_holds 8 = .ok (.ldc 197, 2) := by decide +kernel
theorem dX10_holds_10 : decode cX10_holds 10 = .ok (.ireturn, 1) := by decide +kernel
theorem dX10_holds_11 : decode cX10_holds 11 = .ok (.iload_n 2, 1) := by decide +kernel
theorem dX10_holds_12 : decode cX10_holds 12 = .ok (.i2l, 1) := by decide +kernel
theorem dX10_holds_13 : decode cX10_holds 13 = .ok (.lconst 0, 1) := by decide +kernel
theorem dX10_holds_14 : decode cX10_holds 14 = .ok (.ldc2_w 264, 3) := by decide +kernel
theorem dX10_holds_17 : decode cX10_holds 17 = .ok (.invokestatic 81, 3) := by decide +kernel
theorem dX10_holds_20 : decode cX10_holds 20 = .ok (.ifCond .eq 15, 3) := by decide +kernel
theorem dX10_holds_23 : decode cX10_holds 23 = .ok (.iload_n 3, 1) := by decide +kernel
theorem dX10_holds_24 : decode cX10_holds 24 = .ok (.i2l, 1) := by decide +kernel
theorem dX10_holds_25 : decode cX10_holds 25 = .ok (.lconst 0, 1) := by decide +kernel
theorem dX10_holds_26 : decode cX10_holds 26 = .ok (.ldc2_w 266, 3) := by decide +kernel
theorem dX10_holds_29 : decode cX10_holds 29 = .ok (.invokestatic 81, 3) := by decide +kernel
theorem dX10_holds_32 : decode cX10_holds 32 = .ok (.ifCond .ne 6, 3) := by decide +kernel
theorem dX10_holds_35 : decode cX10_holds 35 = .ok (.ldc 87, 2) := by decide +kernel
theorem dX10_holds_37 : decode cX10_holds 37 = .ok (.ireturn, 1) := by decide +kernel
theorem dX10_holds_38 : decode cX10_holds 38 = .ok (.aload_n 0, 1) := by decide +kernel
theorem dX10_holds_39 : decode cX10_holds 39 = .ok (.invokevirtual 268, 3) := by decide +kernel
theorem dX10_holds_42 : decode cX10_holds 42 = .ok (.aload_n 0, 1) := by decide +kernel
theorem dX10_holds_43 : decode cX10_holds 43 = .ok (.iload_n 1, 1) := by decide +kernel
theorem dX10_holds_44 : decode cX10_holds 44 = .ok (.invokevirtual 271, 3) := by decide +kernel
theorem dX10_holds_47 : decode cX10_holds 47 = .ok (.aload_n 0, 1) := by decide +kernel
theorem dX10_holds_48 : decode cX10_holds 48 = .ok (.invokevirtual 275, 3) := by decide +kernel
theorem dX10_holds_51 : decode cX10_holds 51 = .ok (.iload_n 3, 1) := by decide +kernel
theorem dX10_holds_52 : decode cX10_holds 52 = .ok (.tableswitch 69 0 4 #[36, 43, 50, 56, 62], 36) := by decide +kernel
theorem dX10_holds_88 : decode cX10_holds 88 = .ok (.aload_n 0, 1) := by decide +kernel
theorem dX10_holds_89 : decode cX10_holds 89 = .ok (.getfield 48, 3) := by decide +kernel
theorem dX10_holds_92 : decode cX10_holds 92 = .ok (.iload_n 2, 1) := by decide +kernel
theorem dX10_holds_93 : decode cX10_holds 93 = .ok (.iaload, 1) := by decide +kernel
theorem dX10_holds_94 : decode cX10_holds 94 = .ok (.ireturn, 1) := by decide +kernel
theorem dX10_holds_95 : decode cX10_holds 95 = .ok (.aload_n 0, 1) := by decide +kernel
theorem dX10_holds_96 : decode cX10_holds 96 = .ok (.getfield 51, 3) := by decide +kernel
theorem dX10_holds_99 : decode cX10_holds 99 = .ok (.iload_n 2, 1) := by decide +kernel
theorem dX10_holds_100 : decode cX10_holds 100 = .ok (.iaload, 1) := by decide +kernel
theorem dX10_holds_101 : decode cX10_holds 101 = .ok (.ireturn, 1) := by decide +kernel
theorem dX10_holds_102 : decode cX10_holds 102 = .ok (.aload_n 0, 1) := by decide +kernel
theorem dX10_holds_103 : decode cX10_holds 103 = .ok (.iload_n 2, 1) := by decide +kernel
theorem dX10_holds_104 : decode cX10_holds 104 = .ok (.invokevirtual 278, 3) := by decide +kernel
theorem dX10_holds_107 : decode cX10_holds 107 = .ok (.ireturn, 1) := by decide +kernel
theorem dX10_holds_108 : decode cX10_holds 108 = .ok (.aload_n 0, 1) := by decide +kernel
theorem dX10_holds_109 : decode cX10_holds 109 = .ok (.iload_n 2, 1) := by decide +kernel
theorem dX10_holds_110 : decode cX10_holds 110 = .ok (.invokevirtual 281, 3) := by decide +kernel
theorem dX10_holds_113 : decode cX10_holds 113 = .ok (.ireturn, 1) := by decide +kernel
theorem dX10_holds_114 : decode cX10_holds 114 = .ok (.aload_n 0, 1) := by decide +kernel
theorem dX10_holds_115 : decode cX10_holds 115 = .ok (.getfield 54, 3) := by decide +kernel
theorem dX10_holds_118 : decode cX10_holds 118 = .ok (.iload_n 2, 1) := by decide +kernel
theorem dX10_holds_119 : decode cX10_holds 119 = .ok (.iaload, 1) := by decide +kernel
theorem dX10_holds_120 : decode cX10_holds 120 = .ok (.ireturn, 1) := by decide +kernel
theorem dX10_holds_121 : decode cX10_holds 121 = .ok (.aload_n 0, 1) := by decide +kernel
theorem dX10_holds_122 : decode cX10_holds 122 = .ok (.getfield 57, 3) := by decide +kernel
theorem dX10_holds_125 : decode cX10_holds 125 = .ok (.iload_n 2, 1) := by decide +kernel
theorem dX10_holds_126 : decode cX10_holds 126 = .ok (.iaload, 1) := by decide +kernel
theorem dX10_holds_127 : decode cX10_holds 127 = .ok (.ireturn, 1) := by decide +kernel
theorem dX10_cellOf_0 : decode cX10_cellOf 0 = .ok (.iload_n 0, 1) := by decide +kernel
theorem dX10_cellOf_1 : decode cX10_cellOf 1 = .ok (.sipush (-300), 3) := by decide +kernel
theorem dX10_cellOf_4 : decode cX10_cellOf 4 = .ok (.if_icmp .ge 7, 3) := by decide +kernel
theorem dX10_cellOf_7 : decode cX10_cellOf 7 = .ok (.iconst 0, 1) := by decide +kernel
theorem dX10_cellOf_8 : decode cX10_cellOf 8 = .ok (.goto 11, 3) := by decide +kernel
theorem dX10_cellOf_11 : decode cX10_cellOf 11 = .ok (.iload_n 0, 1) := by decide +kernel
theorem dX10_cellOf_12 : decode cX10_cellOf 12 = .ok (.sipush 300, 3) := by decide +kernel
theorem dX10_cellOf_15 : decode cX10_cellOf 15 = .ok (.iadd, 1) := by decide +kernel
theorem dX10_cellOf_16 : decode cX10_cellOf 16 = .ok (.bipush 50, 2) := by decide +kernel
theorem dX10_cellOf_18 : decode cX10_cellOf 18 = .ok (.idiv, 1) := by decide +kernel
theorem dX10_cellOf_19 : decode cX10_cellOf 19 = .ok (.istore_n 1, 1) := by decide +kernel
theorem dX10_cellOf_20 : decode cX10_cellOf 20 = .ok (.iload_n 1, 1) := by decide +kernel
theorem dX10_cellOf_21 : decode cX10_cellOf 21 = .ok (.bipush 23, 2) := by decide +kernel
theorem dX10_cellOf_23 : decode cX10_cellOf 23 = .ok (.if_icmp .le 8, 3) := by decide +kernel
theorem dX10_cellOf_26 : decode cX10_cellOf 26 = .ok (.bipush 23, 2) := by decide +kernel
theorem dX10_cellOf_28 : decode cX10_cellOf 28 = .ok (.goto 4, 3) := by decide +kernel
theorem dX10_cellOf_31 : decode cX10_cellOf 31 = .ok (.iload_n 1, 1) := by decide +kernel
theorem dX10_cellOf_32 : decode cX10_cellOf 32 = .ok (.ireturn, 1) := by decide +kernel
theorem dX10_isDown_0 : decode cX10_isDown 0 = .ok (.lload_n 1, 1) := by decide +kernel
theorem dX10_isDown_1 : decode cX10_isDown 1 = .ok (.ldc2_w 259, 3) := by decide +kernel
theorem dX10_isDown_4 : decode cX10_isDown 4 = .ok (.ldiv, 1) := by decide +kernel
theorem dX10_isDown_5 : decode cX10_isDown 5 = .ok (.l2i, 1) := by decide +kernel
theorem dX10_isDown_6 : decode cX10_isDown 6 = .ok (.invokestatic 284, 3) := by decide +kernel
theorem dX10_isDown_9 : decode cX10_isDown 9 = .ok (.istore 5, 2) := by decide +kernel
theorem dX10_isDown_11 : decode cX10_isDown 11 = .ok (.lload_n 3, 1) := by decide +kernel
theorem dX10_isDown_12 : decode cX10_isDown 12 = .ok (.aload_n 0, 1) := by decide +kernel
theorem dX10_isDown_13 : decode cX10_isDown 13 = .ok (.iload 5, 2) := by decide +kernel
theorem dX10_isDown_15 : decode cX10_isDown 15 = .ok (.invokevirtual 201, 3) := by decide +kernel
theorem dX10_isDown_18 : decode cX10_isDown 18 = .ok (.iconst 2, 1) := by decide +kernel
theorem dX10_isDown_19 : decode cX10_isDown 19 = .ok (.if_icmp .ne 7, 3) := by decide +kernel
theorem dX10_isDown_22 : decode cX10_isDown 22 = .ok (.lconst 0, 1) := by decide +kernel
theorem dX10_isDown_23 : decode cX10_isDown 23 = .ok (.goto 12, 3) := by decide +kernel
theorem dX10_isDown_26 : decode cX10_isDown 26 = .ok (.ldc2_w 287, 3) := by decide +kernel
theorem dX10_isDown_29 : decode cX10_isDown 29 = .ok (.aload_n 0, 1) := by decide +kernel
theorem dX10_isDown_30 : decode cX10_isDown 30 = .ok (.invokevirtual 192, 3) := by decide +kernel
theorem dX10_isDown_33 : decode cX10_isDown 33 = .ok (.i2l, 1) := by decide +kernel
theorem dX10_isDown_34 : decode cX10_isDown 34 = .ok (.lmul, 1) := by decide +kernel
theorem dX10_isDown_35 : decode cX10_isDown 35 = .ok (.lcmp, 1) := by decide +kernel
theorem dX10_isDown_36 : decode cX10_isDown 36 = .ok (.ifCond .gt 7, 3) := by decide +kernel
theorem dX10_isDown_39 : decode cX10_isDown 39 = .ok (.iconst 1, 1) := by decide +kernel
theorem dX10_isDown_40 : decode cX10_isDown 40 = .ok (.goto 4, 3) := by decide +kernel
theorem dX10_isDown_43 : decode cX10_isDown 43 = .ok (.iconst 0, 1) := by decide +kernel
theorem dX10_isDown_44 : decode cX10_isDown 44 = .ok (.ireturn, 1) := by decide +kernel
theorem dX10_land_0 : decode cX10_land 0 = .ok (.aload_n 0, 1) := by decide +kernel
theorem dX10_land_1 : decode cX10_land 1 = .ok (.getfield 289, 3) := by decide +kernel
theorem dX10_land_4 : decode cX10_land 4 = .ok (.bipush 30, 2) := by decide +kernel
theorem dX10_land_6 : decode cX10_land 6 = .ok (.if_icmp .le 13, 3) := by decide +kernel
theorem dX10_land_9 : decode cX10_land 9 = .ok (.aload_n 0, 1) := by decide +kernel
theorem dX10_land_10 : decode cX10_land 10 = .ok (.getfield 289, 3) := by decide +kernel
theorem dX10_land_13 : decode cX10_land 13 = .ok (.sipush 330, 3) := by decide +kernel
theorem dX10_land_16 : decode cX10_land 16 = .ok (.if_icmp .lt 7, 3) := by decide +kernel
theorem dX10_land_19 : decode cX10_land 19 = .ok (.iconst 1, 1) := by decide +kernel
theorem dX10_land_20 : decode cX10_land 20 = .ok (.goto 4, 3) := by decide +kernel
theorem dX10_land_23 : decode cX10_land 23 = .ok (.iconst 0, 1) := by decide +kernel
theorem dX10_land_24 : decode cX10_land 24 = .ok (.istore_n 3, 1) := by decide +kernel
theorem dX10_land_25 : decode cX10_land 25 = .ok (.aload_n 0, 1) := by decide +kernel
theorem dX10_land_26 : decode cX10_land 26 = .ok (.iload_n 1, 1) := by decide +kernel
theorem dX10_land_27 : decode cX10_land 27 = .ok (.invokevirtual 201, 3) := by decide +kernel
theorem dX10_land_30 : decode cX10_land 30 = .ok (.istore 4, 2) := by decide +kernel
theorem dX10_land_32 : decode cX10_land 32 = .ok (.iload 4, 2) := by decide +kernel
theorem dX10_land_34 : decode cX10_land 34 = .ok (.iconst 1, 1) := by decide +kernel
theorem dX10_land_35 : decode cX10_land 35 = .ok (.if_icmp .eq 18, 3) := by decide +kernel
theorem dX10_land_38 : decode cX10_land 38 = .ok (.aload_n 0, 1) := by decide +kernel
theorem dX10_land_39 : decode cX10_land 39 = .ok (.iload_n 1, 1) := by decide +kernel
theorem dX10_land_40 : decode cX10_land 40 = .ok (.invokevirtual 198, 3) := by decide +kernel
theorem dX10_land_43 : decode cX10_land 43 = .ok (.aload_n 0, 1) := by decide +kernel
theorem dX10_land_44 : decode cX10_land 44 = .ok (.getfield 7, 3) := by decide +kernel
theorem dX10_land_47 : decode cX10_land 47 = .ok (.bipush 7, 2) := by decide +kernel
theorem dX10_land_49 : decode cX10_land 49 = .ok (.iaload, 1) := by decide +kernel
theorem dX10_land_50 : decode cX10_land 50 = .ok (.if_icmp .ge 7, 3) := by decide +kernel
theorem dX10_land_53 : decode cX10_land 53 = .ok (.iconst 3, 1) := by decide +kernel
theorem dX10_land_54 : decode cX10_land 54 = .ok (.goto 12, 3) := by decide +kernel
theorem dX10_land_57 : decode cX10_land 57 = .ok (.iload_n 3, 1) := by decide +kernel
theorem dX10_land_58 : decode cX10_land 58 = .ok (.ifCond .eq 7, 3) := by decide +kernel
theorem dX10_land_61 : decode cX10_land 61 = .ok (.iconst 2, 1) := by decide +kernel
theorem dX10_land_62 : decode cX10_land 62 = .ok (.goto 4, 3) := by decide +kernel
theorem dX10_land_65 : decode cX10_land 65 = .ok (.iconst 4, 1) := by decide +kernel
theorem dX10_land_66 : decode cX10_land 66 = .ok (.istore 5, 2) := by decide +kernel
theorem dX10_land_68 : decode cX10_land 68 = .ok (.aload_n 0, 1) := by decide +kernel
theorem dX10_land_69 : decode cX10_land 69 = .ok (.iload_n 2, 1) := by decide +kernel
theorem dX10_land_70 : decode cX10_land 70 = .ok (.ifCond .eq 7, 3) := by decide +kernel
theorem dX10_land_73 : decode cX10_land 73 = .ok (.iconst 5, 1) := by decide +kernel
theorem dX10_land_74 : decode cX10_land 74 = .ok (.goto 15, 3) := by decide +kernel
theorem dX10_land_77 : decode cX10_land 77 = .ok (.iload 4, 2) := by decide +kernel
theorem dX10_land_79 : decode cX10_land 79 = .ok (.iconst 2, 1) := by decide +kernel
theorem dX10_land_80 : decode cX10_land 80 = .ok (.if_icmp .ne 7, 3) := by decide +kernel
theorem dX10_land_83 : decode cX10_land 83 = .ok (.iconst 1, 1) := by decide +kernel
theorem dX10_land_84 : decode cX10_land 84 = .ok (.goto 5, 3) := by decide +kernel
theorem dX10_land_87 : decode cX10_land 87 = .ok (.iload 5, 2) := by decide +kernel
theorem dX10_land_89 : decode cX10_land 89 = .ok (.putfield 292, 3) := by decide +kernel
theorem dX10_land_92 : decode cX10_land 92 = .ok (.return_, 1) := by decide +kernel
theorem dX10_fly_0 : decode cX10_fly 0 = .ok (.aload_n 0, 1) := by decide +kernel
theorem dX10_fly_1 : decode cX10_fly 1 = .ok (.getfield 48, 3) := by decide +kernel
theorem dX10_fly_4 : decode cX10_fly 4 = .ok (.iload_n 1, 1) := by decide +kernel
theorem dX10_fly_5 : decode cX10_fly 5 = .ok (.iaload, 1) := by decide +kernel
theorem dX10_fly_6 : decode cX10_fly 6 = .ok (.bipush 100, 2) := by decide +kernel
theorem dX10_fly_8 : decode cX10_fly 8 = .ok (.idiv, 1) := by decide +kernel
theorem dX10_fly_9 : decode cX10_fly 9 = .ok (.istore_n 3, 1) := by decide +kernel
theorem dX10_fly_10 : decode cX10_fly 10 = .ok (.aload_n 0, 1) := by decide +kernel
theorem dX10_fly_11 : decode cX10_fly 11 = .ok (.getfield 51, 3) := by decide +kernel
theorem dX10_fly_14 : decode cX10_fly 14 = .ok (.iload_n 1, 1) := by decide +kernel
theorem dX10_fly_15 : decode cX10_fly 15 = .ok (.iaload, 1) := by decide +kernel
theorem dX10_fly_16 : decode cX10_fly 16 = .ok (.i2l, 1) := by decide +kernel
theorem dX10_fly_17 : decode cX10_fly 17 = .ok (.aload_n 0, 1) := by decide +kernel
theorem dX10_fly_18 : decode cX10_fly 18 = .ok (.getfield 230, 3) := by decide +kernel
theorem dX10_fly_21 : decode cX10_fly 21 = .ok (.i2l, 1) := by decide +kernel
theorem dX10_fly_22 : decode cX10_fly 22 = .ok (.lmul, 1) := by decide +kernel
theorem dX10_fly_23 : decode cX10_fly 23 = .ok (.ldc2_w 295, 3) := by decide +kernel
theorem dX10_fly_26 : decode cX10_fly 26 = .ok (.ldiv, 1) := by decide +kernel
theorem dX10_fly_27 : decode cX10_fly 27 = .ok (.lstore 4, 2) := by decide +kernel
theorem dX10_fly_29 : decode cX10_fly 29 = .ok (.lload 4, 2) := by decide +kernel
theorem dX10_fly_31 : decode cX10_fly 31 = .ok (.iload_n 3, 1) := by decide +kernel
theorem dX10_fly_32 : decode cX10_fly 32 = .ok (.invokestatic 254, 3) := by decide +kernel
theorem dX10_fly_35 : decode cX10_fly 35 = .ok (.i2l, 1) := by decide +kernel
theorem dX10_fly_36 : decode cX10_fly 36 = .ok (.lmul, 1) := by decide +kernel
theorem dX10_fly_37 : decode cX10_fly 37 = .ok (.ldc2_w 297, 3) := by decide +kernel
theorem dX10_fly_40 : decode cX10_fly 40 = .ok (.ldiv, 1) := by decide +kernel
theorem dX10_fly_41 : decode cX10_fly 41 = .ok (.lstore 6, 2) := by decide +kernel
theorem dX10_fly_43 : decode cX10_fly 43 = .ok (.lload 4, 2) := by decide +kernel
theorem dX10_fly_45 : decode cX10_fly 45 = .ok (.iload_n 3, 1) := by decide +kernel
theorem dX10_fly_46 : decode cX10_fly 46 = .ok (.invokestatic 223, 3) := by decide +kernel
theorem dX10_fly_49 : decode cX10_fly 49 = .ok (.i2l, 1) := by decide +kernel
theorem dX10_fly_50 : decode cX10_fly 50 = .ok (.lmul, 1) := by decide +kernel
theorem dX10_fly_51 : decode cX10_fly 51 = .ok (.ldc2_w 297, 3) := by decide +kernel
theorem dX10_fly_54 : decode cX10_fly 54 = .ok (.ldiv, 1) := by decide +kernel
theorem dX10_fly_55 : decode cX10_fly 55 = .ok (.lstore 8, 2) := by decide +kernel
theorem dX10_fly_57 : decode cX10_fly 57 = .ok (.ldc2_w 259, 3) := by decide +kernel
theorem dX10_fly_60 : decode cX10_fly 60 = .ok (.aload_n 0, 1) := by decide +kernel
theorem dX10_fly_61 : decode cX10_fly 61 = .ok (.iload_n 1, 1) := by decide +kernel
theorem dX10_fly_62 : decode cX10_fly 62 = .ok (.invokevirtual 278, 3) := by decide +kernel
theorem dX10_fly_65 : decode cX10_fly 65 = .ok (.i2l, 1) := by decide +kernel
theorem dX10_fly_66 : decode cX10_fly 66 = .ok (.lmul, 1) := by decide +kernel
theorem dX10_fly_67 : decode cX10_fly 67 = .ok (.lstore 10, 2) := by decide +kernel
theorem dX10_fly_69 : decode cX10_fly 69 = .ok (.ldc2_w 259, 3) := by decide +kernel
theorem dX10_fly_72 : decode cX10_fly 72 = .ok (.aload_n 0, 1) := by decide +kernel
theorem dX10_fly_73 : decode cX10_fly 73 = .ok (.iload_n 1, 1) := by decide +kernel
theorem dX10_fly_74 : decode cX10_fly 74 = .ok (.invokevirtual 281, 3) := by decide +kernel
theorem dX10_fly_77 : decode cX10_fly 77 = .ok (.aload_n 0, 1) := by decide +kernel
theorem dX10_fly_78 : decode cX10_fly 78 = .ok (.getfield 242, 3) := by decide +kernel
theorem dX10_fly_81 : decode cX10_fly 81 = .ok (.isub, 1) := by decide +kernel
theorem dX10_fly_82 : decode cX10_fly 82 = .ok (.i2l, 1) := by decide +kernel
theorem dX10_fly_83 : decode cX10_fly 83 = .ok (.lmul, 1) := by decide +kernel
theorem dX10_fly_84 : decode cX10_fly 84 = .ok (.lstore 12, 2) := by decide +kernel
theorem dX10_fly_86 : decode cX10_fly 86 = .ok (.lload 12, 2) := by decide +kernel
theorem dX10_fly_88 : decode cX10_fly 88 = .ok (.lstore 14, 2) := by decide +kernel
theorem dX10_fly_90 : decode cX10_fly 90 = .ok (.aload_n 0, 1) := by decide +kernel
theorem dX10_fly_91 : decode cX10_fly 91 = .ok (.iconst 0, 1) := by decide +kernel
theorem dX10_fly_92 : decode cX10_fly 92 = .ok (.putfield 299, 3) := by decide +kernel
theorem dX10_fly_95 : decode cX10_fly 95 = .ok (.iconst 0, 1) := by decide +kernel
theorem dX10_fly_96 : decode cX10_fly 96 = .ok (.istore 16, 2) := by decide +kernel
theorem dX10_fly_98 : decode cX10_fly 98 = .ok (.aload_n 0, 1) := by decide +kernel
theorem dX10_fly_99 : decode cX10_fly 99 = .ok (.getfield 299, 3) := by decide +kernel
theorem dX10_fly_102 : decode cX10_fly 102 = .ok (.sipush 400, 3) := by decide +kernel
theorem dX10_fly_105 : decode cX10_fly 105 = .ok (.if_icmp .ge 70, 3) := by decide +kernel
theorem dX10_fly_108 : decode cX10_fly 108 = .ok (.iload 16, 2) := by decide +kernel
theorem dX10_fly_110 : decode cX10_fly 110 = .ok (.ifCond .ne 65, 3) := by decide +kernel
theorem dX10_fly_113 : decode cX10_fly 113 = .ok (.lload 10, 2) := by decide +kernel
theorem dX10_fly_115 : decode cX10_fly 115 = .ok (.lload 6, 2) := by decide +kernel
theorem dX10_fly_117 : decode cX10_fly 117 = .ok (.ladd, 1) := by decide +kernel
theorem dX10_fly_118 : decode cX10_fly 118 = .ok (.lstore 10, 2) := by decide +kernel
theorem dX10_fly_120 : decode cX10_fly 120 = .ok (.lload 12, 2) := by decide +kernel
theorem dX10_fly_122 : decode cX10_fly 122 = .ok (.lload 8, 2) := by decide +kernel
theorem dX10_fly_124 : decode cX10_fly 124 = .ok (.ladd, 1) := by decide +kernel
theorem dX10_fly_125 : decode cX10_fly 125 = .ok (.lstore 12, 2) := by decide +kernel
theorem dX10_fly_127 : decode cX10_fly 127 = .ok (.lload 8, 2) := by decide +kernel
theorem dX10_fly_129 : decode cX10_fly 129 = .ok (.ldc2_w 302, 3) := by decide +kernel
theorem dX10_fly_132 : decode cX10_fly 132 = .ok (.lsub, 1) := by decide +kernel
theorem dX10_fly_133 : decode cX10_fly 133 = .ok (.lstore 8, 2) := by decide +kernel
theorem dX10_fly_135 : decode cX10_fly 135 = .ok (.lload 12, 2) := by decide +kernel
theorem dX10_fly_137 : decode cX10_fly 137 = .ok (.lload 14, 2) := by decide +kernel
theorem dX10_fly_139 : decode cX10_fly 139 = .ok (.lcmp, 1) := by decide +kernel
theorem dX10_fly_140 : decode cX10_fly 140 = .ok (.ifCond .le 8, 3) := by decide +kernel
theorem dX10_fly_143 : decode cX10_fly 143 = .ok (.lload 12, 2) := by decide +kernel
theorem dX10_fly_145 : decode cX10_fly 145 = .ok (.goto 5, 3) := by decide +kernel
theorem dX10_fly_148 : decode cX10_fly 148 = .ok (.lload 14, 2) := by decide +kernel
theorem dX10_fly_150 : decode cX10_fly 150 = .ok (.lstore 14, 2) := by decide +kernel
theorem dX10_fly_152 : decode cX10_fly 152 = .ok (.aload_n 0, 1) := by decide +kernel
theorem dX10_fly_153 : decode cX10_fly 153 = .ok (.dup, 1) := by decide +kernel
theorem dX10_fly_154 : decode cX10_fly 154 = .ok (.getfield 299, 3) := by decide +kernel
theorem dX10_fly_157 : decode cX10_fly 157 = .ok (.iconst 1, 1) := by decide +kernel
theorem dX10_fly_158 : decode cX10_fly 158 = .ok (.iadd, 1) := by decide +kernel
theorem dX10_fly_159 : decode cX10_fly 159 = .ok (.putfield 299, 3) := by decide +kernel
theorem dX10_fly_162 : decode cX10_fly 162 = .ok (.aload_n 0, 1) := by decide +kernel
theorem dX10_fly_163 : decode cX10_fly 163 = .ok (.lload 10, 2) := by decide +kernel
theorem dX10_fly_165 : decode cX10_fly 165 = .ok (.lload 12, 2) := by decide +kernel
theorem dX10_fly_167 : decode cX10_fly 167 = .ok (.invokevirtual 304, 3) := by decide +kernel
theorem dX10_fly_170 : decode cX10_fly 170 = .ok (.istore 16, 2) := by decide +kernel
theorem dX10_fly_172 : decode cX10_fly 172 = .ok (.goto (-74), 3) := by decide +kernel
theorem dX10_fly_175 : decode cX10_fly 175 = .ok (.aload_n 0, 1) := by decide +kernel
theorem dX10_fly_176 : decode cX10_fly 176 = .ok (.lload 14, 2) := by decide +kernel
theorem dX10_fly_178 : decode cX10_fly 178 = .ok (.ldc2_w 259, 3) := by decide +kernel
theorem dX10_fly_181 : decode cX10_fly 181 = .ok (.ldiv, 1) := by decide +kernel
theorem dX10_fly_182 : decode cX10_fly 182 = .ok (.l2i, 1) := by decide +kernel
theorem dX10_fly_183 : decode cX10_fly 183 = .ok (.putfield 308, 3) := by decide +kernel
theorem dX10_fly_186 : decode cX10_fly 186 = .ok (.aload_n 0, 1) := by decide +kernel
theorem dX10_fly_187 : decode cX10_fly 187 = .ok (.aload_n 0, 1) := by decide +kernel
theorem dX10_fly_188 : decode cX10_fly 188 = .ok (.getfield 251, 3) := by decide +kernel
theorem dX10_fly_191 : decode cX10_fly 191 = .ok (.aload_n 0, 1) := by decide +kernel
theorem dX10_fly_192 : decode cX10_fly 192 = .ok (.getfield 299, 3) := by decide +kernel
theorem dX10_fly_195 : decode cX10_fly 195 = .ok (.imul, 1) := by decide +kernel
theorem dX10_fly_196 : decode cX10_fly 196 = .ok (.sipush 360, 3) := by decide +kernel
theorem dX10_fly_199 : decode cX10_fly 199 = .ok (.irem, 1) := by decide +kernel
theorem dX10_fly_200 : decode cX10_fly 200 = .ok (.putfield 289, 3) := by decide +kernel
theorem dX10_fly_203 : decode cX10_fly 203 = .ok (.aload_n 0, 1) := by decide +kernel
theorem dX10_fly_204 : decode cX10_fly 204 = .ok (.iconst 0, 1) := by decide +kernel
theorem dX10_fly_205 : decode cX10_fly 205 = .ok (.putfield 292, 3) := by decide +kernel
theorem dX10_fly_208 : decode cX10_fly 208 = .ok (.aload_n 0, 1) := by decide +kernel
theorem dX10_fly_209 : decode cX10_fly 209 = .ok (.aload_n 0, 1) := by decide +kernel
theorem dX10_fly_210 : decode cX10_fly 210 = .ok (.iload_n 1, 1) := by decide +kernel
theorem dX10_fly_211 : decode cX10_fly 211 = .ok (.invokevirtual 278, 3) := by decide +kernel
theorem dX10_fly_214 : decode cX10_fly 214 = .ok (.putfield 311, 3) := by decide +kernel
theorem dX10_fly_217 : decode cX10_fly 217 = .ok (.iload 16, 2) := by decide +kernel
theorem dX10_fly_219 : decode cX10_fly 219 = .ok (.ifCond .eq 26, 3) := by decide +kernel
theorem dX10_fly_222 : decode cX10_fly 222 = .ok (.aload_n 0, 1) := by decide +kernel
theorem dX10_fly_223 : decode cX10_fly 223 = .ok (.lload 10, 2) := by decide +kernel
theorem dX10_fly_225 : decode cX10_fly 225 = .ok (.ldc2_w 259, 3) := by decide +kernel
theorem dX10_fly_228 : decode cX10_fly 228 = .ok (.ldiv, 1) := by decide +kernel
theorem dX10_fly_229 : decode cX10_fly 229 = .ok (.l2i, 1) := by decide +kernel
theorem dX10_fly_230 : decode cX10_fly 230 = .ok (.putfield 311, 3) := by decide +kernel
theorem dX10_fly_233 : decode cX10_fly 233 = .ok (.aload_n 0, 1) := by decide +kernel
theorem dX10_fly_234 : decode cX10_fly 234 = .ok (.aload_n 0, 1) := by decide +kernel
theorem dX10_fly_235 : decode cX10_fly 235 = .ok (.getfield 311, 3) := by decide +kernel
theorem dX10_fly_238 : decode cX10_fly 238 = .ok (.invokestatic 284, 3) := by decide +kernel
theorem dX10_fly_241 : decode cX10_fly 241 = .ok (.iload_n 2, 1) := by decide +kernel
theorem dX10_fly_242 : decode cX10_fly 242 = .ok (.invokevirtual 314, 3) := by decide +kernel
theorem dX10_fly_245 : decode cX10_fly 245 = .ok (.return_, 1) := by decide +kernel
theorem dX10_endAt_0 : decode cX10_endAt 0 = .ok (.aload_n 0, 1) := by decide +kernel
theorem dX10_endAt_1 : decode cX10_endAt 1 = .ok (.getfield 54, 3) := by decide +kernel
theorem dX10_endAt_4 : decode cX10_endAt 4 = .ok (.iload_n 1, 1) := by decide +kernel
theorem dX10_endAt_5 : decode cX10_endAt 5 = .ok (.iaload, 1) := by decide +kernel
theorem dX10_endAt_6 : decode cX10_endAt 6 = .ok (.aload_n 0, 1) := by decide +kernel
theorem dX10_endAt_7 : decode cX10_endAt 7 = .ok (.getfield 236, 3) := by decide +kernel
theorem dX10_endAt_10 : decode cX10_endAt 10 = .ok (.if_icmp .le 6, 3) := by decide +kernel
theorem dX10_endAt_13 : decode cX10_endAt 13 = .ok (.bipush 7, 2) := by decide +kernel
theorem dX10_endAt_15 : decode cX10_endAt 15 = .ok (.ireturn, 1) := by decide +kernel
theorem dX10_endAt_16 : decode cX10_endAt 16 = .ok (.aload_n 0, 1) := by decide +kernel
theorem dX10_endAt_17 : decode cX10_endAt 17 = .ok (.getfield 57, 3) := by decide +kernel
theorem dX10_endAt_20 : decode cX10_endAt 20 = .ok (.iload_n 1, 1) := by decide +kernel
theorem dX10_endAt_21 : decode cX10_endAt 21 = .ok (.iaload, 1) := by decide +kernel
theorem dX10_endAt_22 : decode cX10_endAt 22 = .ok (.ifCond .ge 5, 3) := by decide +kernel
theorem dX10_endAt_25 : decode cX10_endAt 25 = .ok (.iconst 5, 1) := by decide +kernel
theorem dX10_endAt_26 : decode cX10_endAt 26 = .ok (.ireturn, 1) := by decide +kernel
theorem dX10_endAt_27 : decode cX10_endAt 27 = .ok (.iload_n 1, 1) := by decide +kernel
theorem dX10_endAt_28 : decode cX10_endAt 28 = .ok (.iload_n 2, 1) := by decide +kernel
theorem dX10_endAt_29 : decode cX10_endAt 29 = .ok (.aload_n 0, 1) := by decide +kernel
theorem dX10_endAt_30 : decode cX10_endAt 30 = .ok (.getfield 248, 3) := by decide +kernel
theorem dX10_endAt_33 : decode cX10_endAt 33 = .ok (.iadd, 1) := by decide +kernel
theorem dX10_endAt_34 : decode cX10_endAt 34 = .ok (.if_icmp .lt 6, 3) := by decide +kernel
theorem dX10_endAt_37 : decode cX10_endAt 37 = .ok (.bipush 9, 2) := by decide +kernel
theorem dX10_endAt_39 : decode cX10_endAt 39 = .ok (.ireturn, 1) := by decide +kernel
theorem dX10_endAt_40 : decode cX10_endAt 40 = .ok (.aload_n 0, 1) := by decide +kernel
theorem dX10_endAt_41 : decode cX10_endAt 41 = .ok (.getfield 51, 3) := by decide +kernel
theorem dX10_endAt_44 : decode cX10_endAt 44 = .ok (.iload_n 1, 1) := by decide +kernel
theorem dX10_endAt_45 : decode cX10_endAt 45 = .ok (.iaload, 1) := by decide +kernel
theorem dX10_endAt_46 : decode cX10_endAt 46 = .ok (.ifCond .ge 22, 3) := by decide +kernel
theorem dX10_endAt_49 : decode cX10_endAt 49 = .ok (.aload_n 0, 1) := by decide +kernel
theorem dX10_endAt_50 : decode cX10_endAt 50 = .ok (.iload_n 1, 1) := by decide +kernel
theorem dX10_endAt_51 : decode cX10_endAt 51 = .ok (.invokevirtual 278, 3) := by decide +kernel
theorem dX10_endAt_54 : decode cX10_endAt 54 = .ok (.aload_n 0, 1) := by decide +kernel
theorem dX10_endAt_55 : decode cX10_endAt 55 = .ok (.getfield 7, 3) := by decide +kernel
theorem dX10_endAt_58 : decode cX10_endAt 58 = .ok (.bipush 6, 2) := by decide +kernel
theorem dX10_endAt_60 : decode cX10_endAt 60 = .ok (.iaload, 1) := by decide +kernel
theorem dX10_endAt_61 : decode cX10_endAt 61 = .ok (.ineg, 1) := by decide +kernel
theorem dX10_endAt_62 : decode cX10_endAt 62 = .ok (.if_icmp .ge 6, 3) := by decide +kernel
theorem dX10_endAt_65 : decode cX10_endAt 65 = .ok (.bipush 6, 2) := by decide +kernel
theorem dX10_endAt_67 : decode cX10_endAt 67 = .ok (.ireturn, 1) := by decide +kernel
theorem dX10_endAt_68 : decode cX10_endAt 68 = .ok (.aload_n 0, 1) := by decide +kernel
theorem dX10_endAt_69 : decode cX10_endAt 69 = .ok (.iload_n 1, 1) := by decide +kernel
theorem dX10_endAt_70 : decode cX10_endAt 70 = .ok (.invokevirtual 281, 3) := by decide +kernel
theorem dX10_endAt_73 : decode cX10_endAt 73 = .ok (.aload_n 0, 1) := by decide +kernel
theorem dX10_endAt_74 : decode cX10_endAt 74 = .ok (.getfield 242, 3) := by decide +kernel
theorem dX10_endAt_77 : decode cX10_endAt 77 = .ok (.isub, 1) := by decide +kernel
theorem dX10_endAt_78 : decode cX10_endAt 78 = .ok (.aload_n 0, 1) := by decide +kernel
theorem dX10_endAt_79 : decode cX10_endAt 79 = .ok (.invokevirtual 192, 3) := by decide +kernel
theorem dX10_endAt_82 : decode cX10_endAt 82 = .ok (.ineg, 1) := by decide +kernel
theorem dX10_endAt_83 : decode cX10_endAt 83 = .ok (.if_icmp .ge 22, 3) := by decide +kernel
theorem dX10_endAt_86 : decode cX10_endAt 86 = .ok (.aload_n 0, 1) := by decide +kernel
theorem dX10_endAt_87 : decode cX10_endAt 87 = .ok (.aload_n 0, 1) := by decide +kernel
theorem dX10_endAt_88 : decode cX10_endAt 88 = .ok (.iload_n 1, 1) := by decide +kernel
theorem dX10_endAt_89 : decode cX10_endAt 89 = .ok (.invokevirtual 278, 3) := by decide +kernel
theorem dX10_endAt_92 : decode cX10_endAt 92 = .ok (.invokestatic 284, 3) := by decide +kernel
theorem dX10_endAt_95 : decode cX10_endAt 95 = .ok (.invokevirtual 201, 3) := by decide +kernel
theorem dX10_endAt_98 : decode cX10_endAt 98 = .ok (.ifCond .ne 7, 3) := by decide +kernel
theorem dX10_endAt_101 : decode cX10_endAt 101 = .ok (.iconst 1, 1) := by decide +kernel
theorem dX10_endAt_102 : decode cX10_endAt 102 = .ok (.goto 4, 3) := by decide +kernel
theorem dX10_endAt_105 : decode cX10_endAt 105 = .ok (.iconst 0, 1) := by decide +kernel
theorem dX10_endAt_106 : decode cX10_endAt 106 = .ok (.istore_n 3, 1) := by decide +kernel
theorem dX10_endAt_107 : decode cX10_endAt 107 = .ok (.iload_n 3, 1) := by decide +kernel
theorem dX10_endAt_108 : decode cX10_endAt 108 = .ok (.ifCond .eq 8, 3) := by decide +kernel
theorem dX10_endAt_111 : decode cX10_endAt 111 = .ok (.bipush 8, 2) := by decide +kernel
theorem dX10_endAt_113 : decode cX10_endAt 113 = .ok (.goto 4, 3) := by decide +kernel
theorem dX10_endAt_116 : decode cX10_endAt 116 = .ok (.iconst (-1), 1) := by decide +kernel
theorem dX10_endAt_117 : decode cX10_endAt 117 = .ok (.ireturn, 1) := by decide +kernel
theorem dX10_letGo_0 : decode cX10_letGo 0 = .ok (.iconst 1, 1) := by decide +kernel
theorem dX10_letGo_1 : decode cX10_letGo 1 = .ok (.istore_n 2, 1) := by decide +kernel
theorem dX10_letGo_2 : decode cX10_letGo 2 = .ok (.aload_n 0, 1) := by decide +kernel
theorem dX10_letGo_3 : decode cX10_letGo 3 = .ok (.iconst 1, 1) := by decide +kernel
theorem dX10_letGo_4 : decode cX10_letGo 4 = .ok (.iload_n 1, 1) := by decide +kernel
theorem dX10_letGo_5 : decode cX10_letGo 5 = .ok (.invokevirtual 318, 3) := by decide +kernel
theorem dX10_letGo_8 : decode cX10_letGo 8 = .ok (.istore_n 3, 1) := by decide +kernel
theorem dX10_letGo_9 : decode cX10_letGo 9 = .ok (.iload_n 3, 1) := by decide +kernel
theorem dX10_letGo_10 : decode cX10_letGo 10 = .ok (.ifCond .ge 23, 3) := by decide +kernel
theorem dX10_letGo_13 : decode cX10_letGo 13 = .ok (.iload_n 2, 1) := by decide +kernel
theorem dX10_letGo_14 : decode cX10_letGo 14 = .ok (.sipush 200, 3) := by decide +kernel
theorem dX10_letGo_17 : decode cX10_letGo 17 = .ok (.if_icmp .ge 16, 3) := by decide +kernel
theorem dX10_letGo_20 : decode cX10_letGo 20 = .ok (.iinc 2 1, 3) := by decide +kernel
theorem dX10_letGo_23 : decode cX10_letGo 23 = .ok (.aload_n 0, 1) := by decide +kernel
theorem dX10_letGo_24 : decode cX10_letGo 24 = .ok (.iload_n 2, 1) := by decide +kernel
theorem dX10_letGo_25 : decode cX10_letGo 25 = .ok (.iload_n 1, 1) := by decide +kernel
theorem dX10_letGo_26 : decode cX10_letGo 26 = .ok (.invokevirtual 318, 3) := by decide +kernel
theorem dX10_letGo_29 : decode cX10_letGo 29 = .ok (.istore_n 3, 1) := by decide +kernel
theorem dX10_letGo_30 : decode cX10_letGo 30 = .ok (.goto (-21), 3) := by decide +kernel
theorem dX10_letGo_33 : decode cX10_letGo 33 = .ok (.aload_n 0, 1) := by decide +kernel
theorem dX10_letGo_34 : decode cX10_letGo 34 = .ok (.iload_n 2, 1) := by decide +kernel
theorem dX10_letGo_35 : decode cX10_letGo 35 = .ok (.putfield 321, 3) := by decide +kernel
theorem dX10_letGo_38 : decode cX10_letGo 38 = .ok (.aload_n 0, 1) := by decide +kernel
theorem dX10_letGo_39 : decode cX10_letGo 39 = .ok (.iconst 0, 1) := by decide +kernel
theorem dX10_letGo_40 : decode cX10_letGo 40 = .ok (.putfield 299, 3) := by decide +kernel
theorem dX10_letGo_43 : decode cX10_letGo 43 = .ok (.aload_n 0, 1) := by decide +kernel
theorem dX10_letGo_44 : decode cX10_letGo 44 = .ok (.iconst 0, 1) := by decide +kernel
theorem dX10_letGo_45 : decode cX10_letGo 45 = .ok (.putfield 308, 3) := by decide +kernel
theorem dX10_letGo_48 : decode cX10_letGo 48 = .ok (.aload_n 0, 1) := by decide +kernel
theorem dX10_letGo_49 : decode cX10_letGo 49 = .ok (.iconst 0, 1) := by decide +kernel
theorem dX10_letGo_50 : decode cX10_letGo 50 = .ok (.putfield 289, 3) := by decide +kernel
theorem dX10_letGo_53 : decode cX10_letGo 53 = .ok (.aload_n 0, 1) := by decide +kernel
theorem dX10_letGo_54 : decode cX10_letGo 54 = .ok (.aload_n 0, 1) := by decide +kernel
theorem dX10_letGo_55 : decode cX10_letGo 55 = .ok (.iload_n 2, 1) := by decide +kernel
theorem dX10_letGo_56 : decode cX10_letGo 56 = .ok (.invokevirtual 278, 3) := by decide +kernel
theorem dX10_letGo_59 : decode cX10_letGo 59 = .ok (.putfield 311, 3) := by decide +kernel
theorem dX10_letGo_62 : decode cX10_letGo 62 = .ok (.aload_n 0, 1) := by decide +kernel
theorem dX10_letGo_63 : decode cX10_letGo 63 = .ok (.iload_n 3, 1) := by decide +kernel
theorem dX10_letGo_64 : decode cX10_letGo 64 = .ok (.ifCond .ge 7, 3) := by decide +kernel
theorem dX10_letGo_67 : decode cX10_letGo 67 = .ok (.iconst 0, 1) := by decide +kernel
theorem dX10_letGo_68 : decode cX10_letGo 68 = .ok (.goto 4, 3) := by decide +kernel
theorem dX10_letGo_71 : decode cX10_letGo 71 = .ok (.iload_n 3, 1) := by decide +kernel
theorem dX10_letGo_72 : decode cX10_letGo 72 = .ok (.putfield 292, 3) := by decide +kernel
theorem dX10_letGo_75 : decode cX10_letGo 75 = .ok (.iload_n 3, 1) := by decide +kernel
theorem dX10_letGo_76 : decode cX10_letGo 76 = .ok (.bipush 9, 2) := by decide +kernel
theorem dX10_letGo_78 : decode cX10_letGo 78 = .ok (.if_icmp .eq 8, 3) := by decide +kernel
theorem dX10_letGo_81 : decode cX10_letGo 81 = .ok (.iload_n 3, 1) := by decide +kernel
theorem dX10_letGo_82 : decode cX10_letGo 82 = .ok (.iconst 5, 1) := by decide +kernel
theorem dX10_letGo_83 : decode cX10_letGo 83 = .ok (.if_icmp .ne 18, 3) := by decide +kernel
theorem dX10_letGo_86 : decode cX10_letGo 86 = .ok (.aload_n 0, 1) := by decide +kernel
theorem dX10_letGo_87 : decode cX10_letGo 87 = .ok (.iload_n 2, 1) := by decide +kernel
theorem dX10_letGo_88 : decode cX10_letGo 88 = .ok (.iload_n 3, 1) := by decide +kernel
theorem dX10_letGo_89 : decode cX10_letGo 89 = .ok (.iconst 5, 1) := by decide +kernel
theorem dX10_letGo_90 : decode cX10_letGo 90 = .ok (.if_icmp .ne 7, 3) := by decide +kernel
theorem dX10_letGo_93 : decode cX10_letGo 93 = .ok (.iconst 1, 1) := by decide +kernel
theorem dX10_letGo_94 : decode cX10_letGo 94 = .ok (.goto 4, 3) := by decide +kernel
theorem dX10_letGo_97 : decode cX10_letGo 97 = .ok (.iconst 0, 1) := by decide +kernel
theorem dX10_letGo_98 : decode cX10_letGo 98 = .ok (.invokevirtual 324, 3) := by decide +kernel
theorem dX10_letGo_101 : decode cX10_letGo 101 = .ok (.return_, 1) := by decide +kernel
theorem dX10_isTime_0 : decode cX10_isTime 0 = .ok (.iload_n 0, 1) := by decide +kernel
theorem dX10_isTime_1 : decode cX10_isTime 1 = .ok (.i2l, 1) := by decide +kernel
theorem dX10_isTime_2 : decode cX10_isTime 2 = .ok (.lconst 1, 1) := by decide +kernel
theorem dX10_isTime_3 : decode cX10_isTime 3 = .ok (.ldc2_w 264, 3) := by decide +kernel
theorem dX10_isTime_6 : decode cX10_isTime 6 = .ok (.invokestatic 81, 3) := by decide +kernel
theorem dX10_isTime_9 : decode cX10_isTime 9 = .ok (.ireturn, 1) := by decide +kernel
theorem dX10_ready_0 : decode cX10_ready 0 = .ok (.aload_n 0, 1) := by decide +kernel
theorem dX10_ready_1 : decode cX10_ready 1 = .ok (.invokevirtual 268, 3) := by decide +kernel
theorem dX10_ready_4 : decode cX10_ready 4 = .ok (.aload_n 0, 1) := by decide +kernel
theorem dX10_ready_5 : decode cX10_ready 5 = .ok (.iload_n 1, 1) := by decide +kernel
theorem dX10_ready_6 : decode cX10_ready 6 = .ok (.invokevirtual 271, 3) := by decide +kernel
theorem dX10_ready_9 : decode cX10_ready 9 = .ok (.aload_n 0, 1) := by decide +kernel
theorem dX10_ready_10 : decode cX10_ready 10 = .ok (.invokevirtual 275, 3) := by decide +kernel
theorem dX10_ready_13 : decode cX10_ready 13 = .ok (.return_, 1) := by decide +kernel
theorem dX10_lands_0 : decode cX10_lands 0 = .ok (.aload_n 0, 1) := by decide +kernel
theorem dX10_lands_1 : decode cX10_lands 1 = .ok (.iload_n 1, 1) := by decide +kernel
theorem dX10_lands_2 : decode cX10_lands 2 = .ok (.invokevirtual 204, 3) := by decide +kernel
theorem dX10_lands_5 : decode cX10_lands 5 = .ok (.ifCond .ne 6, 3) := by decide +kernel
theorem dX10_lands_8 : decode cX10_lands 8 = .ok (.ldc 197, 2) := by decide +kernel
theorem dX10_lands_10 : decode cX10_lands 10 = .ok (.ireturn, 1) := by decide +kernel
theorem dX10_lands_11 : decode cX10_lands 11 = .ok (.iload_n 2, 1) := by decide +kernel
theorem dX10_lands_12 : decode cX10_lands 12 = .ok (.invokestatic 327, 3) := by decide +kernel
theorem dX10_lands_15 : decode cX10_lands 15 = .ok (.ifCond .eq 15, 3) := by decide +kernel
theorem dX10_lands_18 : decode cX10_lands 18 = .ok (.iload_n 3, 1) := by decide +kernel
theorem dX10_lands_19 : decode cX10_lands 19 = .ok (.i2l, 1) := by decide +kernel
theorem dX10_lands_20 : decode cX10_lands 20 = .ok (.lconst 0, 1) := by decide +kernel
theorem dX10_lands_21 : decode cX10_lands 21 = .ok (.ldc2_w 266, 3) := by decide +kernel
theorem dX10_lands_24 : decode cX10_lands 24 = .ok (.invokestatic 81, 3) := by decide +kernel
theorem dX10_lands_27 : decode cX10_lands 27 = .ok (.ifCond .ne 6, 3) := by decide +kernel
theorem dX10_lands_30 : decode cX10_lands 30 = .ok (.ldc 87, 2) := by decide +kernel
theorem dX10_lands_32 : decode cX10_lands 32 = .ok (.ireturn, 1) := by decide +kernel
theorem dX10_lands_33 : decode cX10_lands 33 = .ok (.aload_n 0, 1) := by decide +kernel
theorem dX10_lands_34 : decode cX10_lands 34 = .ok (.iload_n 1, 1) := by decide +kernel
theorem dX10_lands_35 : decode cX10_lands 35 = .ok (.invokevirtual 330, 3) := by decide +kernel
theorem dX10_lands_38 : decode cX10_lands 38 = .ok (.aload_n 0, 1) := by decide +kernel
theorem dX10_lands_39 : decode cX10_lands 39 = .ok (.iload_n 2, 1) := by decide +kernel
theorem dX10_lands_40 : decode cX10_lands 40 = .ok (.invokevirtual 333, 3) := by decide +kernel
theorem dX10_lands_43 : decode cX10_lands 43 = .ok (.iload_n 3, 1) := by decide +kernel
theorem dX10_lands_44 : decode cX10_lands 44 = .ok (.tableswitch 61 0 4 #[36, 41, 46, 51, 56], 36) := by decide +kernel
theorem dX10_lands_80 : decode cX10_lands 80 = .ok (.aload_n 0, 1) := by decide +kernel
theorem dX10_lands_81 : decode cX10_lands 81 = .ok (.getfield 292, 3) := by decide +kernel
theorem dX10_lands_84 : decode cX10_lands 84 = .ok (.ireturn, 1) := by decide +kernel
theorem dX10_lands_85 : decode cX10_lands 85 = .ok (.aload_n 0, 1) := by decide +kernel
theorem dX10_lands_86 : decode cX10_lands 86 = .ok (.getfield 311, 3) := by decide +kernel
theorem dX10_lands_89 : decode cX10_lands 89 = .ok (.ireturn, 1) := by decide +kernel
theorem dX10_lands_90 : decode cX10_lands 90 = .ok (.aload_n 0, 1) := by decide +kernel
theorem dX10_lands_91 : decode cX10_lands 91 = .ok (.getfield 321, 3) := by decide +kernel
theorem dX10_lands_94 : decode cX10_lands 94 = .ok (.ireturn, 1) := by decide +kernel
theorem dX10_lands_95 : decode cX10_lands 95 = .ok (.aload_n 0, 1) := by decide +kernel
theorem dX10_lands_96 : decode cX10_lands 96 = .ok (.getfield 299, 3) := by decide +kernel
theorem dX10_lands_99 : decode cX10_lands 99 = .ok (.ireturn, 1) := by decide +kernel
theorem dX10_lands_100 : decode cX10_lands 100 = .ok (.aload_n 0, 1) := by decide +kernel
theorem dX10_lands_101 : decode cX10_lands 101 = .ok (.getfield 308, 3) := by decide +kernel
theorem dX10_lands_104 : decode cX10_lands 104 = .ok (.ireturn, 1) := by decide +kernel
theorem dX10_lands_105 : decode cX10_lands 105 = .ok (.aload_n 0, 1) := by decide +kernel
theorem dX10_lands_106 : decode cX10_lands 106 = .ok (.getfield 289, 3) := by decide +kernel
theorem dX10_lands_109 : decode cX10_lands 109 = .ok (.ireturn, 1) := by decide +kernel
theorem dX10_isGood_0 : decode cX10_isGood 0 = .ok (.aload_n 0, 1) := by decide +kernel
theorem dX10_isGood_1 : decode cX10_isGood 1 = .ok (.iload_n 1, 1) := by decide +kernel
theorem dX10_isGood_2 : decode cX10_isGood 2 = .ok (.invokevirtual 333, 3) := by decide +kernel
theorem dX10_isGood_5 : decode cX10_isGood 5 = .ok (.aload_n 0, 1) := by decide +kernel
theorem dX10_isGood_6 : decode cX10_isGood 6 = .ok (.getfield 292, 3) := by decide +kernel
theorem dX10_isGood_9 : decode cX10_isGood 9 = .ok (.iconst 1, 1) := by decide +kernel
theorem dX10_isGood_10 : decode cX10_isGood 10 = .ok (.if_icmp .eq 11, 3) := by decide +kernel
theorem dX10_isGood_13 : decode cX10_isGood 13 = .ok (.aload_n 0, 1) := by decide +kernel
theorem dX10_isGood_14 : decode cX10_isGood 14 = .ok (.getfield 292, 3) := by decide +kernel
theorem dX10_isGood_17 : decode cX10_isGood 17 = .ok (.iconst 2, 1) := by decide +kernel
theorem dX10_isGood_18 : decode cX10_isGood 18 = .ok (.if_icmp .ne 7, 3) := by decide +kernel
theorem dX10_isGood_21 : decode cX10_isGood 21 = .ok (.iconst 1, 1) := by decide +kernel
theorem dX10_isGood_22 : decode cX10_isGood 22 = .ok (.goto 4, 3) := by decide +kernel
theorem dX10_isGood_25 : decode cX10_isGood 25 = .ok (.iconst 0, 1) := by decide +kernel
theorem dX10_isGood_26 : decode cX10_isGood 26 = .ok (.ireturn, 1) := by decide +kernel
theorem dX10_bestTime_0 : decode cX10_bestTime 0 = .ok (.iconst (-1), 1) := by decide +kernel
theorem dX10_bestTime_1 : decode cX10_bestTime 1 = .ok (.istore_n 2, 1) := by decide +kernel
theorem dX10_bestTime_2 : decode cX10_bestTime 2 = .ok (.iconst 0, 1) := by decide +kernel
theorem dX10_bestTime_3 : decode cX10_bestTime 3 = .ok (.istore_n 3, 1) := by decide +kernel
theorem dX10_bestTime_4 : decode cX10_bestTime 4 = .ok (.iconst 1, 1) := by decide +kernel
theorem dX10_bestTime_5 : decode cX10_bestTime 5 = .ok (.istore 4, 2) := by decide +kernel
theorem dX10_bestTime_7 : decode cX10_bestTime 7 = .ok (.iload 4, 2) := by decide +kernel
theorem dX10_bestTime_9 : decode cX10_bestTime 9 = .ok (.sipush 200, 3) := by decide +kernel
theorem dX10_bestTime_12 : decode cX10_bestTime 12 = .ok (.if_icmp .gt 76, 3) := by decide +kernel
theorem dX10_bestTime_15 : decode cX10_bestTime 15 = .ok (.aload_n 0, 1) := by decide +kernel
theorem dX10_bestTime_16 : decode cX10_bestTime 16 = .ok (.iload 4, 2) := by decide +kernel
theorem dX10_bestTime_18 : decode cX10_bestTime 18 = .ok (.invokevirtual 336, 3) := by decide +kernel
theorem dX10_bestTime_21 : decode cX10_bestTime 21 = .ok (.ifCond .eq 61, 3) := by decide +kernel
theorem dX10_bestTime_24 : decode cX10_bestTime 24 = .ok (.iload_n 1, 1) := by decide +kernel
theorem dX10_bestTime_25 : decode cX10_bestTime 25 = .ok (.ifCond .ne 10, 3) := by decide +kernel
theorem dX10_bestTime_28 : decode cX10_bestTime 28 = .ok (.aload_n 0, 1) := by decide +kernel
theorem dX10_bestTime_29 : decode cX10_bestTime 29 = .ok (.getfield 311, 3) := by decide +kernel
theorem dX10_bestTime_32 : decode cX10_bestTime 32 = .ok (.goto 7, 3) := by decide +kernel
theorem dX10_bestTime_35 : decode cX10_bestTime 35 = .ok (.aload_n 0, 1) := by decide +kernel
theorem dX10_bestTime_36 : decode cX10_bestTime 36 = .ok (.getfield 308, 3) := by decide +kernel
theorem dX10_bestTime_39 : decode cX10_bestTime 39 = .ok (.istore 5, 2) := by decide +kernel
theorem dX10_bestTime_41 : decode cX10_bestTime 41 = .ok (.iload_n 2, 1) := by decide +kernel
theorem dX10_bestTime_42 : decode cX10_bestTime 42 = .ok (.ifCond .lt 9, 3) := by decide +kernel
theorem dX10_bestTime_45 : decode cX10_bestTime 45 = .ok (.iload 5, 2) := by decide +kernel
theorem dX10_bestTime_47 : decode cX10_bestTime 47 = .ok (.iload_n 3, 1) := by decide +kernel
theorem dX10_bestTime_48 : decode cX10_bestTime 48 = .ok (.if_icmp .le 7, 3) := by decide +kernel
theorem dX10_bestTime_51 : decode cX10_bestTime 51 = .ok (.iconst 1, 1) := by decide +kernel
theorem dX10_bestTime_52 : decode cX10_bestTime 52 = .ok (.goto 4, 3) := by decide +kernel
theorem dX10_bestTime_55 : decode cX10_bestTime 55 = .ok (.iconst 0, 1) := by decide +kernel
theorem dX10_bestTime_56 : decode cX10_bestTime 56 = .ok (.istore 6, 2) := by decide +kernel
theorem dX10_bestTime_58 : decode cX10_bestTime 58 = .ok (.iload 6, 2) := by decide +kernel
theorem dX10_bestTime_60 : decode cX10_bestTime 60 = .ok (.ifCond .eq 8, 3) := by decide +kernel
theorem dX10_bestTime_63 : decode cX10_bestTime 63 = .ok (.iload 4, 2) := by decide +kernel
theorem dX10_bestTime_65 : decode cX10_bestTime 65 = .ok (.goto 4, 3) := by decide +kernel
theorem dX10_bestTime_68 : decode cX10_bestTime 68 = .ok (.iload_n 2, 1) := by decide +kernel
theorem dX10_bestTime_69 : decode cX10_bestTime 69 = .ok (.istore_n 2, 1) := by decide +kernel
theorem dX10_bestTime_70 : decode cX10_bestTime 70 = .ok (.iload 6, 2) := by decide +kernel
theorem dX10_bestTime_72 : decode cX10_bestTime 72 = .ok (.ifCond .eq 8, 3) := by decide +kernel
theorem dX10_bestTime_75 : decode cX10_bestTime 75 = .ok (.iload 5, 2) := by decide +kernel
theorem dX10_bestTime_77 : decode cX10_bestTime 77 = .ok (.goto 4, 3) := by decide +kernel
theorem dX10_bestTime_80 : decode cX10_bestTime 80 = .ok (.iload_n 3, 1) := by decide +kernel
theorem dX10_bestTime_81 : decode cX10_bestTime 81 = .ok (.istore_n 3, 1) := by decide +kernel
theorem dX10_bestTime_82 : decode cX10_bestTime 82 = .ok (.iinc 4 1, 3) := by decide +kernel
theorem dX10_bestTime_85 : decode cX10_bestTime 85 = .ok (.goto (-78), 3) := by decide +kernel
theorem dX10_bestTime_88 : decode cX10_bestTime 88 = .ok (.iload_n 2, 1) := by decide +kernel
theorem dX10_bestTime_89 : decode cX10_bestTime 89 = .ok (.ireturn, 1) := by decide +kernel
theorem dX10_best_0 : decode cX10_best 0 = .ok (.aload_n 0, 1) := by decide +kernel
theorem dX10_best_1 : decode cX10_best 1 = .ok (.iload_n 1, 1) := by decide +kernel
theorem dX10_best_2 : decode cX10_best 2 = .ok (.invokevirtual 204, 3) := by decide +kernel
theorem dX10_best_5 : decode cX10_best 5 = .ok (.ifCond .ne 6, 3) := by decide +kernel
theorem dX10_best_8 : decode cX10_best 8 = .ok (.ldc 197, 2) := by decide +kernel
theorem dX10_best_10 : decode cX10_best 10 = .ok (.ireturn, 1) := by decide +kernel
theorem dX10_best_11 : decode cX10_best 11 = .ok (.iload_n 2, 1) := by decide +kernel
theorem dX10_best_12 : decode cX10_best 12 = .ok (.i2l, 1) := by decide +kernel
theorem dX10_best_13 : decode cX10_best 13 = .ok (.lconst 0, 1) := by decide +kernel
theorem dX10_best_14 : decode cX10_best 14 = .ok (.lconst 1, 1) := by decide +kernel
theorem dX10_best_15 : decode cX10_best 15 = .ok (.invokestatic 81, 3) := by decide +kernel
theorem dX10_best_18 : decode cX10_best 18 = .ok (.ifCond .ne 6, 3) := by decide +kernel
theorem dX10_best_21 : decode cX10_best 21 = .ok (.ldc 87, 2) := by decide +kernel
theorem dX10_best_23 : decode cX10_best 23 = .ok (.ireturn, 1) := by decide +kernel
theorem dX10_best_24 : decode cX10_best 24 = .ok (.aload_n 0, 1) := by decide +kernel
theorem dX10_best_25 : decode cX10_best 25 = .ok (.iload_n 1, 1) := by decide +kernel
theorem dX10_best_26 : decode cX10_best 26 = .ok (.invokevirtual 330, 3) := by decide +kernel
theorem dX10_best_29 : decode cX10_best 29 = .ok (.aload_n 0, 1) := by decide +kernel
theorem dX10_best_30 : decode cX10_best 30 = .ok (.iload_n 2, 1) := by decide +kernel
theorem dX10_best_31 : decode cX10_best 31 = .ok (.invokevirtual 339, 3) := by decide +kernel
theorem dX10_best_34 : decode cX10_best 34 = .ok (.ireturn, 1) := by decide +kernel
theorem dX10_wideRow_0 : decode cX10_wideRow 0 = .ok (.iconst 0, 1) := by decide +kernel
theorem dX10_wideRow_1 : decode cX10_wideRow 1 = .ok (.istore_n 1, 1) := by decide +kernel
theorem dX10_wideRow_2 : decode cX10_wideRow 2 = .ok (.iconst 0, 1) := by decide +kernel
theorem dX10_wideRow_3 : decode cX10_wideRow 3 = .ok (.istore_n 2, 1) := by decide +kernel
theorem dX10_wideRow_4 : decode cX10_wideRow 4 = .ok (.aload_n 0, 1) := by decide +kernel
theorem dX10_wideRow_5 : decode cX10_wideRow 5 = .ok (.iconst (-1), 1) := by decide +kernel
theorem dX10_wideRow_6 : decode cX10_wideRow 6 = .ok (.putfield 342, 3) := by decide +kernel
theorem dX10_wideRow_9 : decode cX10_wideRow 9 = .ok (.aload_n 0, 1) := by decide +kernel
theorem dX10_wideRow_10 : decode cX10_wideRow 10 = .ok (.iconst 0, 1) := by decide +kernel
theorem dX10_wideRow_11 : decode cX10_wideRow 11 = .ok (.putfield 345, 3) := by decide +kernel
theorem dX10_wideRow_14 : decode cX10_wideRow 14 = .ok (.iconst 1, 1) := by decide +kernel
theorem dX10_wideRow_15 : decode cX10_wideRow 15 = .ok (.istore_n 3, 1) := by decide +kernel
theorem dX10_wideRow_16 : decode cX10_wideRow 16 = .ok (.iload_n 3, 1) := by decide +kernel
theorem dX10_wideRow_17 : decode cX10_wideRow 17 = .ok (.sipush 200, 3) := by decide +kernel
theorem dX10_wideRow_20 : decode cX10_wideRow 20 = .ok (.if_icmp .gt 80, 3) := by decide +kernel
theorem dX10_wideRow_23 : decode cX10_wideRow 23 = .ok (.aload_n 0, 1) := by decide +kernel
theorem dX10_wideRow_24 : decode cX10_wideRow 24 = .ok (.iload_n 3, 1) := by decide +kernel
theorem dX10_wideRow_25 : decode cX10_wideRow 25 = .ok (.invokevirtual 336, 3) := by decide +kernel
theorem dX10_wideRow_28 : decode cX10_wideRow 28 = .ok (.istore 4, 2) := by decide +kernel
theorem dX10_wideRow_30 : decode cX10_wideRow 30 = .ok (.iload 4, 2) := by decide +kernel
theorem dX10_wideRow_32 : decode cX10_wideRow 32 = .ok (.ifCond .eq 9, 3) := by decide +kernel
theorem dX10_wideRow_35 : decode cX10_wideRow 35 = .ok (.iload_n 2, 1) := by decide +kernel
theorem dX10_wideRow_36 : decode cX10_wideRow 36 = .ok (.iconst 1, 1) := by decide +kernel
theorem dX10_wideRow_37 : decode cX10_wideRow 37 = .ok (.iadd, 1) := by decide +kernel
theorem dX10_wideRow_38 : decode cX10_wideRow 38 = .ok (.goto 4, 3) := by decide +kernel
theorem dX10_wideRow_41 : decode cX10_wideRow 41 = .ok (.iconst 0, 1) := by decide +kernel
theorem dX10_wideRow_42 : decode cX10_wideRow 42 = .ok (.istore_n 2, 1) := by decide +kernel
theorem dX10_wideRow_43 : decode cX10_wideRow 43 = .ok (.aload_n 0, 1) := by decide +kernel
theorem dX10_wideRow_44 : decode cX10_wideRow 44 = .ok (.dup, 1) := by decide +kernel
theorem dX10_wideRow_45 : decode cX10_wideRow 45 = .ok (.getfield 345, 3) := by decide +kernel
theorem dX10_wideRow_48 : decode cX10_wideRow 48 = .ok (.iload 4, 2) := by decide +kernel
theorem dX10_wideRow_50 : decode cX10_wideRow 50 = .ok (.ifCond .eq 7, 3) := by decide +kernel
theorem dX10_wideRow_53 : decode cX10_wideRow 53 = .ok (.iconst 1, 1) := by decide +kernel
theorem dX10_wideRow_54 : decode cX10_wideRow 54 = .ok (.goto 4, 3) := by decide +kernel
theorem dX10_wideRow_57 : decode cX10_wideRow 57 = .ok (.iconst 0, 1) := by decide +kernel
theorem dX10_wideRow_58 : decode cX10_wideRow 58 = .ok (.iadd, 1) := by decide +kernel
theorem dX10_wideRow_59 : decode cX10_wideRow 59 = .ok (.putfield 345, 3) := by decide +kernel
theorem dX10_wideRow_62 : decode cX10_wideRow 62 = .ok (.aload_n 0, 1) := by decide +kernel
theorem dX10_wideRow_63 : decode cX10_wideRow 63 = .ok (.iload_n 2, 1) := by decide +kernel
theorem dX10_wideRow_64 : decode cX10_wideRow 64 = .ok (.iload_n 1, 1) := by decide +kernel
theorem dX10_wideRow_65 : decode cX10_wideRow 65 = .ok (.if_icmp .le 11, 3) := by decide +kernel
theorem dX10_wideRow_68 : decode cX10_wideRow 68 = .ok (.iload_n 3, 1) := by decide +kernel
theorem dX10_wideRow_69 : decode cX10_wideRow 69 = .ok (.iload_n 2, 1) := by decide +kernel
theorem dX10_wideRow_70 : decode cX10_wideRow 70 = .ok (.isub, 1) := by decide +kernel
theorem dX10_wideRow_71 : decode cX10_wideRow 71 = .ok (.iconst 1, 1) := by decide +kernel
theorem dX10_wideRow_72 : decode cX10_wideRow 72 = .ok (.iadd, 1) := by decide +kernel
theorem dX10_wideRow_73 : decode cX10_wideRow 73 = .ok (.goto 7, 3) := by decide +kernel
theorem dX10_wideRow_76 : decode cX10_wideRow 76 = .ok (.aload_n 0, 1) := by decide +kernel
theorem dX10_wideRow_77 : decode cX10_wideRow 77 = .ok (.getfield 342, 3) := by decide +kernel
theorem dX10_wideRow_80 : decode cX10_wideRow 80 = .ok (.putfield 342, 3) := by decide +kernel
theorem dX10_wideRow_83 : decode cX10_wideRow 83 = .ok (.iload_n 2, 1) := by decide +kernel
theorem dX10_wideRow_84 : decode cX10_wideRow 84 = .ok (.iload_n 1, 1) := by decide +kernel
theorem dX10_wideRow_85 : decode cX10_wideRow 85 = .ok (.if_icmp .le 7, 3) := by decide +kernel
theorem dX10_wideRow_88 : decode cX10_wideRow 88 = .ok (.iload_n 2, 1) := by decide +kernel
theorem dX10_wideRow_89 : decode cX10_wideRow 89 = .ok (.goto 4, 3) := by decide +kernel
theorem dX10_wideRow_92 : decode cX10_wideRow 92 = .ok (.iload_n 1, 1) := by decide +kernel
theorem dX10_wideRow_93 : decode cX10_wideRow 93 = .ok (.istore_n 1, 1) := by decide +kernel
theorem dX10_wideRow_94 : decode cX10_wideRow 94 = .ok (.iinc 3 1, 3) := by decide +kernel
theorem dX10_wideRow_97 : decode cX10_wideRow 97 = .ok (.goto (-81), 3) := by decide +kernel
theorem dX10_wideRow_100 : decode cX10_wideRow 100 = .ok (.iload_n 1, 1) := by decide +kernel
theorem dX10_wideRow_101 : decode cX10_wideRow 101 = .ok (.ireturn, 1) := by decide +kernel
theorem dX10_wide_0 : decode cX10_wide 0 = .ok (.aload_n 0, 1) := by decide +kernel
theorem dX10_wide_1 : decode cX10_wide 1 = .ok (.iload_n 1, 1) := by decide +kernel
theorem dX10_wide_2 : decode cX10_wide 2 = .ok (.invokevirtual 204, 3) := by decide +kernel
theorem dX10_wide_5 : decode cX10_wide 5 = .ok (.ifCond .ne 6, 3) := by decide +kernel
theorem dX10_wide_8 : decode cX10_wide 8 = .ok (.ldc 197, 2) := by decide +kernel
theorem dX10_wide_10 : decode cX10_wide 10 = .ok (.ireturn, 1) := by decide +kernel
theorem dX10_wide_11 : decode cX10_wide 11 = .ok (.iload_n 2, 1) := by decide +kernel
theorem dX10_wide_12 : decode cX10_wide 12 = .ok (.i2l, 1) := by decide +kernel
theorem dX10_wide_13 : decode cX10_wide 13 = .ok (.lconst 0, 1) := by decide +kernel
theorem dX10_wide_14 : decode cX10_wide 14 = .ok (.ldc2_w 348, 3) := by decide +kernel
theorem dX10_wide_17 : decode cX10_wide 17 = .ok (.invokestatic 81, 3) := by decide +kernel
theorem dX10_wide_20 : decode cX10_wide 20 = .ok (.ifCond .ne 6, 3) := by decide +kernel
theorem dX10_wide_23 : decode cX10_wide 23 = .ok (.ldc 87, 2) := by decide +kernel
theorem dX10_wide_25 : decode cX10_wide 25 = .ok (.ireturn, 1) := by decide +kernel
theorem dX10_wide_26 : decode cX10_wide 26 = .ok (.aload_n 0, 1) := by decide +kernel
theorem dX10_wide_27 : decode cX10_wide 27 = .ok (.iload_n 1, 1) := by decide +kernel
theorem dX10_wide_28 : decode cX10_wide 28 = .ok (.invokevirtual 330, 3) := by decide +kernel
theorem dX10_wide_31 : decode cX10_wide 31 = .ok (.aload_n 0, 1) := by decide +kernel
theorem dX10_wide_32 : decode cX10_wide 32 = .ok (.invokevirtual 350, 3) := by decide +kernel
theorem dX10_wide_35 : decode cX10_wide 35 = .ok (.istore_n 3, 1) := by decide +kernel
theorem dX10_wide_36 : decode cX10_wide 36 = .ok (.iload_n 2, 1) := by decide +kernel
theorem dX10_wide_37 : decode cX10_wide 37 = .ok (.ifCond .ne 7, 3) := by decide +kernel
theorem dX10_wide_40 : decode cX10_wide 40 = .ok (.iload_n 3, 1) := by decide +kernel
theorem dX10_wide_41 : decode cX10_wide 41 = .ok (.goto 19, 3) := by decide +kernel
theorem dX10_wide_44 : decode cX10_wide 44 = .ok (.iload_n 2, 1) := by decide +kernel
theorem dX10_wide_45 : decode cX10_wide 45 = .ok (.iconst 1, 1) := by decide +kernel
