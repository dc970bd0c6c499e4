theorem dX9_feed_74 : decode cX9_feed 74 = .ok (.ireturn, 1) := by decide +kernel
theorem dX9_place_0 : decode cX9_place 0 = .ok (.aload_n 0, 1) := by decide +kernel
theorem dX9_place_1 : decode cX9_place 1 = .ok (.getfield 32, 3) := by decide +kernel
theorem dX9_place_4 : decode cX9_place 4 = .ok (.invokevirtual 105, 3) := by decide +kernel
theorem dX9_place_7 : decode cX9_place 7 = .ok (.aload_n 0, 1) := by decide +kernel
theorem dX9_place_8 : decode cX9_place 8 = .ok (.getfield 21, 3) := by decide +kernel
theorem dX9_place_11 : decode cX9_place 11 = .ok (.aload_n 0, 1) := by decide +kernel
theorem dX9_place_12 : decode cX9_place 12 = .ok (.getfield 32, 3) := by decide +kernel
theorem dX9_place_15 : decode cX9_place 15 = .ok (.invokevirtual 108, 3) := by decide +kernel
theorem dX9_place_18 : decode cX9_place 18 = .ok (.istore_n 1, 1) := by decide +kernel
theorem dX9_place_19 : decode cX9_place 19 = .ok (.aload_n 0, 1) := by decide +kernel
theorem dX9_place_20 : decode cX9_place 20 = .ok (.getfield 10, 3) := by decide +kernel
theorem dX9_place_23 : decode cX9_place 23 = .ok (.invokevirtual 112, 3) := by decide +kernel
theorem dX9_place_26 : decode cX9_place 26 = .ok (.aload_n 0, 1) := by decide +kernel
theorem dX9_place_27 : decode cX9_place 27 = .ok (.aload_n 0, 1) := by decide +kernel
theorem dX9_place_28 : decode cX9_place 28 = .ok (.getfield 21, 3) := by decide +kernel
theorem dX9_place_31 : decode cX9_place 31 = .ok (.invokevirtual 113, 3) := by decide +kernel
theorem dX9_place_34 : decode cX9_place 34 = .ok (.putfield 87, 3) := by decide +kernel
theorem dX9_place_37 : decode cX9_place 37 = .ok (.iload_n 1, 1) := by decide +kernel
theorem dX9_place_38 : decode cX9_place 38 = .ok (.ifCond .ne 14, 3) := by decide +kernel
theorem dX9_place_41 : decode cX9_place 41 = .ok (.bipush (-10), 2) := by decide +kernel
theorem dX9_place_43 : decode cX9_place 43 = .ok (.aload_n 0, 1) := by decide +kernel
theorem dX9_place_44 : decode cX9_place 44 = .ok (.getfield 21, 3) := by decide +kernel
theorem dX9_place_47 : decode cX9_place 47 = .ok (.invokevirtual 115, 3) := by decide +kernel
theorem dX9_place_50 : decode cX9_place 50 = .ok (.isub, 1) := by decide +kernel
theorem dX9_place_51 : decode cX9_place 51 = .ok (.ireturn, 1) := by decide +kernel
theorem dX9_place_52 : decode cX9_place 52 = .ok (.aload_n 0, 1) := by decide +kernel
theorem dX9_place_53 : decode cX9_place 53 = .ok (.getfield 28, 3) := by decide +kernel
theorem dX9_place_56 : decode cX9_place 56 = .ok (.aload_n 0, 1) := by decide +kernel
theorem dX9_place_57 : decode cX9_place 57 = .ok (.getfield 32, 3) := by decide +kernel
theorem dX9_place_60 : decode cX9_place 60 = .ok (.invokevirtual 118, 3) := by decide +kernel
theorem dX9_place_63 : decode cX9_place 63 = .ok (.aload_n 0, 1) := by decide +kernel
theorem dX9_place_64 : decode cX9_place 64 = .ok (.getfield 45, 3) := by decide +kernel
theorem dX9_place_67 : decode cX9_place 67 = .ok (.aload_n 0, 1) := by decide +kernel
theorem dX9_place_68 : decode cX9_place 68 = .ok (.getfield 28, 3) := by decide +kernel
theorem dX9_place_71 : decode cX9_place 71 = .ok (.invokevirtual 91, 3) := by decide +kernel
theorem dX9_place_74 : decode cX9_place 74 = .ok (.aload_n 0, 1) := by decide +kernel
theorem dX9_place_75 : decode cX9_place 75 = .ok (.getfield 21, 3) := by decide +kernel
theorem dX9_place_78 : decode cX9_place 78 = .ok (.invokevirtual 121, 3) := by decide +kernel
theorem dX9_place_81 : decode cX9_place 81 = .ok (.ireturn, 1) := by decide +kernel
theorem dX9_swinger_0 : decode cX9_swinger 0 = .ok (.aload_n 0, 1) := by decide +kernel
theorem dX9_swinger_1 : decode cX9_swinger 1 = .ok (.getfield 10, 3) := by decide +kernel
theorem dX9_swinger_4 : decode cX9_swinger 4 = .ok (.invokevirtual 96, 3) := by decide +kernel
theorem dX9_swinger_7 : decode cX9_swinger 7 = .ok (.bipush 40, 2) := by decide +kernel
theorem dX9_swinger_9 : decode cX9_swinger 9 = .ok (.if_icmp .le 6, 3) := by decide +kernel
theorem dX9_swinger_12 : decode cX9_swinger 12 = .ok (.ldc 124, 2) := by decide +kernel
theorem dX9_swinger_14 : decode cX9_swinger 14 = .ok (.ireturn, 1) := by decide +kernel
theorem dX9_swinger_15 : decode cX9_swinger 15 = .ok (.aload_n 0, 1) := by decide +kernel
theorem dX9_swinger_16 : decode cX9_swinger 16 = .ok (.getfield 125, 3) := by decide +kernel
theorem dX9_swinger_19 : decode cX9_swinger 19 = .ok (.ifCond .lt 27, 3) := by decide +kernel
theorem dX9_swinger_22 : decode cX9_swinger 22 = .ok (.aload_n 0, 1) := by decide +kernel
theorem dX9_swinger_23 : decode cX9_swinger 23 = .ok (.getfield 125, 3) := by decide +kernel
theorem dX9_swinger_26 : decode cX9_swinger 26 = .ok (.aload_n 0, 1) := by decide +kernel
theorem dX9_swinger_27 : decode cX9_swinger 27 = .ok (.getfield 37, 3) := by decide +kernel
theorem dX9_swinger_30 : decode cX9_swinger 30 = .ok (.arraylength, 1) := by decide +kernel
theorem dX9_swinger_31 : decode cX9_swinger 31 = .ok (.if_icmp .ge 15, 3) := by decide +kernel
theorem dX9_swinger_34 : decode cX9_swinger 34 = .ok (.aload_n 0, 1) := by decide +kernel
theorem dX9_swinger_35 : decode cX9_swinger 35 = .ok (.getfield 37, 3) := by decide +kernel
theorem dX9_swinger_38 : decode cX9_swinger 38 = .ok (.aload_n 0, 1) := by decide +kernel
theorem dX9_swinger_39 : decode cX9_swinger 39 = .ok (.getfield 125, 3) := by decide +kernel
theorem dX9_swinger_42 : decode cX9_swinger 42 = .ok (.aaload, 1) := by decide +kernel
theorem dX9_swinger_43 : decode cX9_swinger 43 = .ok (.goto 4, 3) := by decide +kernel
theorem dX9_swinger_46 : decode cX9_swinger 46 = .ok (.aconst_null, 1) := by decide +kernel
theorem dX9_swinger_47 : decode cX9_swinger 47 = .ok (.astore_n 1, 1) := by decide +kernel
theorem dX9_swinger_48 : decode cX9_swinger 48 = .ok (.aload_n 1, 1) := by decide +kernel
theorem dX9_swinger_49 : decode cX9_swinger 49 = .ok (.ifnonnull 6, 3) := by decide +kernel
theorem dX9_swinger_52 : decode cX9_swinger 52 = .ok (.ldc 100, 2) := by decide +kernel
theorem dX9_swinger_54 : decode cX9_swinger 54 = .ok (.ireturn, 1) := by decide +kernel
theorem dX9_swinger_55 : decode cX9_swinger 55 = .ok (.aload_n 0, 1) := by decide +kernel
theorem dX9_swinger_56 : decode cX9_swinger 56 = .ok (.getfield 21, 3) := by decide +kernel
theorem dX9_swinger_59 : decode cX9_swinger 59 = .ok (.aload_n 1, 1) := by decide +kernel
theorem dX9_swinger_60 : decode cX9_swinger 60 = .ok (.invokevirtual 128, 3) := by decide +kernel
theorem dX9_swinger_63 : decode cX9_swinger 63 = .ok (.istore_n 2, 1) := by decide +kernel
theorem dX9_swinger_64 : decode cX9_swinger 64 = .ok (.aload_n 0, 1) := by decide +kernel
theorem dX9_swinger_65 : decode cX9_swinger 65 = .ok (.getfield 10, 3) := by decide +kernel
theorem dX9_swinger_68 : decode cX9_swinger 68 = .ok (.invokevirtual 112, 3) := by decide +kernel
theorem dX9_swinger_71 : decode cX9_swinger 71 = .ok (.aload_n 0, 1) := by decide +kernel
theorem dX9_swinger_72 : decode cX9_swinger 72 = .ok (.aload_n 0, 1) := by decide +kernel
theorem dX9_swinger_73 : decode cX9_swinger 73 = .ok (.getfield 21, 3) := by decide +kernel
theorem dX9_swinger_76 : decode cX9_swinger 76 = .ok (.invokevirtual 113, 3) := by decide +kernel
theorem dX9_swinger_79 : decode cX9_swinger 79 = .ok (.putfield 87, 3) := by decide +kernel
theorem dX9_swinger_82 : decode cX9_swinger 82 = .ok (.iload_n 2, 1) := by decide +kernel
theorem dX9_swinger_83 : decode cX9_swinger 83 = .ok (.ifCond .ne 14, 3) := by decide +kernel
theorem dX9_swinger_86 : decode cX9_swinger 86 = .ok (.bipush (-10), 2) := by decide +kernel
theorem dX9_swinger_88 : decode cX9_swinger 88 = .ok (.aload_n 0, 1) := by decide +kernel
theorem dX9_swinger_89 : decode cX9_swinger 89 = .ok (.getfield 21, 3) := by decide +kernel
theorem dX9_swinger_92 : decode cX9_swinger 92 = .ok (.invokevirtual 115, 3) := by decide +kernel
theorem dX9_swinger_95 : decode cX9_swinger 95 = .ok (.isub, 1) := by decide +kernel
theorem dX9_swinger_96 : decode cX9_swinger 96 = .ok (.ireturn, 1) := by decide +kernel
theorem dX9_swinger_97 : decode cX9_swinger 97 = .ok (.aload_n 0, 1) := by decide +kernel
theorem dX9_swinger_98 : decode cX9_swinger 98 = .ok (.dup, 1) := by decide +kernel
theorem dX9_swinger_99 : decode cX9_swinger 99 = .ok (.getfield 125, 3) := by decide +kernel
theorem dX9_swinger_102 : decode cX9_swinger 102 = .ok (.iconst 1, 1) := by decide +kernel
theorem dX9_swinger_103 : decode cX9_swinger 103 = .ok (.iadd, 1) := by decide +kernel
theorem dX9_swinger_104 : decode cX9_swinger 104 = .ok (.putfield 125, 3) := by decide +kernel
theorem dX9_swinger_107 : decode cX9_swinger 107 = .ok (.aload_n 0, 1) := by decide +kernel
theorem dX9_swinger_108 : decode cX9_swinger 108 = .ok (.getfield 125, 3) := by decide +kernel
theorem dX9_swinger_111 : decode cX9_swinger 111 = .ok (.iconst 1, 1) := by decide +kernel
theorem dX9_swinger_112 : decode cX9_swinger 112 = .ok (.isub, 1) := by decide +kernel
theorem dX9_swinger_113 : decode cX9_swinger 113 = .ok (.ireturn, 1) := by decide +kernel
theorem dX9_fault_0 : decode cX9_fault 0 = .ok (.aload_n 0, 1) := by decide +kernel
theorem dX9_fault_1 : decode cX9_fault 1 = .ok (.getfield 87, 3) := by decide +kernel
theorem dX9_fault_4 : decode cX9_fault 4 = .ok (.ireturn, 1) := by decide +kernel
theorem dX9_told_0 : decode cX9_told 0 = .ok (.iload_n 1, 1) := by decide +kernel
theorem dX9_told_1 : decode cX9_told 1 = .ok (.ifCond .lt 9, 3) := by decide +kernel
theorem dX9_told_4 : decode cX9_told 4 = .ok (.iload_n 1, 1) := by decide +kernel
theorem dX9_told_5 : decode cX9_told 5 = .ok (.bipush 10, 2) := by decide +kernel
theorem dX9_told_7 : decode cX9_told 7 = .ok (.if_icmp .le 6, 3) := by decide +kernel
theorem dX9_told_10 : decode cX9_told 10 = .ok (.ldc 95, 2) := by decide +kernel
theorem dX9_told_12 : decode cX9_told 12 = .ok (.ireturn, 1) := by decide +kernel
theorem dX9_told_13 : decode cX9_told 13 = .ok (.iload_n 1, 1) := by decide +kernel
theorem dX9_told_14 : decode cX9_told 14 = .ok (.bipush 9, 2) := by decide +kernel
theorem dX9_told_16 : decode cX9_told 16 = .ok (.if_icmp .ne 8, 3) := by decide +kernel
theorem dX9_told_19 : decode cX9_told 19 = .ok (.aload_n 0, 1) := by decide +kernel
theorem dX9_told_20 : decode cX9_told 20 = .ok (.getfield 125, 3) := by decide +kernel
theorem dX9_told_23 : decode cX9_told 23 = .ok (.ireturn, 1) := by decide +kernel
theorem dX9_told_24 : decode cX9_told 24 = .ok (.iload_n 1, 1) := by decide +kernel
theorem dX9_told_25 : decode cX9_told 25 = .ok (.bipush 10, 2) := by decide +kernel
theorem dX9_told_27 : decode cX9_told 27 = .ok (.if_icmp .ne 13, 3) := by decide +kernel
theorem dX9_told_30 : decode cX9_told 30 = .ok (.aload_n 0, 1) := by decide +kernel
theorem dX9_told_31 : decode cX9_told 31 = .ok (.getfield 10, 3) := by decide +kernel
theorem dX9_told_34 : decode cX9_told 34 = .ok (.invokevirtual 96, 3) := by decide +kernel
theorem dX9_told_37 : decode cX9_told 37 = .ok (.goto 11, 3) := by decide +kernel
theorem dX9_told_40 : decode cX9_told 40 = .ok (.aload_n 0, 1) := by decide +kernel
theorem dX9_told_41 : decode cX9_told 41 = .ok (.getfield 28, 3) := by decide +kernel
theorem dX9_told_44 : decode cX9_told 44 = .ok (.iload_n 1, 1) := by decide +kernel
theorem dX9_told_45 : decode cX9_told 45 = .ok (.invokevirtual 132, 3) := by decide +kernel
theorem dX9_told_48 : decode cX9_told 48 = .ok (.ireturn, 1) := by decide +kernel
theorem dX9_cell_0 : decode cX9_cell 0 = .ok (.iload_n 1, 1) := by decide +kernel
theorem dX9_cell_1 : decode cX9_cell 1 = .ok (.ifCond .lt 9, 3) := by decide +kernel
theorem dX9_cell_4 : decode cX9_cell 4 = .ok (.iload_n 1, 1) := by decide +kernel
theorem dX9_cell_5 : decode cX9_cell 5 = .ok (.bipush 24, 2) := by decide +kernel
theorem dX9_cell_7 : decode cX9_cell 7 = .ok (.if_icmp .lt 6, 3) := by decide +kernel
theorem dX9_cell_10 : decode cX9_cell 10 = .ok (.ldc 136, 2) := by decide +kernel
theorem dX9_cell_12 : decode cX9_cell 12 = .ok (.ireturn, 1) := by decide +kernel
theorem dX9_cell_13 : decode cX9_cell 13 = .ok (.iload_n 2, 1) := by decide +kernel
theorem dX9_cell_14 : decode cX9_cell 14 = .ok (.ifCond .lt 8, 3) := by decide +kernel
theorem dX9_cell_17 : decode cX9_cell 17 = .ok (.iload_n 2, 1) := by decide +kernel
theorem dX9_cell_18 : decode cX9_cell 18 = .ok (.iconst 2, 1) := by decide +kernel
theorem dX9_cell_19 : decode cX9_cell 19 = .ok (.if_icmp .le 6, 3) := by decide +kernel
theorem dX9_cell_22 : decode cX9_cell 22 = .ok (.ldc 95, 2) := by decide +kernel
theorem dX9_cell_24 : decode cX9_cell 24 = .ok (.ireturn, 1) := by decide +kernel
theorem dX9_cell_25 : decode cX9_cell 25 = .ok (.iload_n 2, 1) := by decide +kernel
theorem dX9_cell_26 : decode cX9_cell 26 = .ok (.iconst 2, 1) := by decide +kernel
theorem dX9_cell_27 : decode cX9_cell 27 = .ok (.if_icmp .ne 12, 3) := by decide +kernel
theorem dX9_cell_30 : decode cX9_cell 30 = .ok (.aload_n 0, 1) := by decide +kernel
theorem dX9_cell_31 : decode cX9_cell 31 = .ok (.getfield 28, 3) := by decide +kernel
theorem dX9_cell_34 : decode cX9_cell 34 = .ok (.iload_n 1, 1) := by decide +kernel
theorem dX9_cell_35 : decode cX9_cell 35 = .ok (.invokevirtual 137, 3) := by decide +kernel
theorem dX9_cell_38 : decode cX9_cell 38 = .ok (.ireturn, 1) := by decide +kernel
theorem dX9_cell_39 : decode cX9_cell 39 = .ok (.aload_n 0, 1) := by decide +kernel
theorem dX9_cell_40 : decode cX9_cell 40 = .ok (.getfield 28, 3) := by decide +kernel
theorem dX9_cell_43 : decode cX9_cell 43 = .ok (.iload_n 1, 1) := by decide +kernel
theorem dX9_cell_44 : decode cX9_cell 44 = .ok (.iload_n 2, 1) := by decide +kernel
theorem dX9_cell_45 : decode cX9_cell 45 = .ok (.ifCond .ne 7, 3) := by decide +kernel
theorem dX9_cell_48 : decode cX9_cell 48 = .ok (.iconst 0, 1) := by decide +kernel
theorem dX9_cell_49 : decode cX9_cell 49 = .ok (.goto 7, 3) := by decide +kernel
theorem dX9_cell_52 : decode cX9_cell 52 = .ok (.aload_n 0, 1) := by decide +kernel
theorem dX9_cell_53 : decode cX9_cell 53 = .ok (.invokevirtual 140, 3) := by decide +kernel
theorem dX9_cell_56 : decode cX9_cell 56 = .ok (.invokevirtual 143, 3) := by decide +kernel
theorem dX9_cell_59 : decode cX9_cell 59 = .ok (.ireturn, 1) := by decide +kernel
theorem dX9_who_0 : decode cX9_who 0 = .ok (.aload_n 0, 1) := by decide +kernel
theorem dX9_who_1 : decode cX9_who 1 = .ok (.iload_n 1, 1) := by decide +kernel
theorem dX9_who_2 : decode cX9_who 2 = .ok (.invokevirtual 147, 3) := by decide +kernel
theorem dX9_who_5 : decode cX9_who 5 = .ok (.astore_n 3, 1) := by decide +kernel
theorem dX9_who_6 : decode cX9_who 6 = .ok (.aload_n 3, 1) := by decide +kernel
theorem dX9_who_7 : decode cX9_who 7 = .ok (.ifnonnull 6, 3) := by decide +kernel
theorem dX9_who_10 : decode cX9_who 10 = .ok (.ldc 136, 2) := by decide +kernel
theorem dX9_who_12 : decode cX9_who 12 = .ok (.ireturn, 1) := by decide +kernel
theorem dX9_who_13 : decode cX9_who 13 = .ok (.iload_n 2, 1) := by decide +kernel
theorem dX9_who_14 : decode cX9_who 14 = .ok (.iconst 0, 1) := by decide +kernel
theorem dX9_who_15 : decode cX9_who 15 = .ok (.iconst 4, 1) := by decide +kernel
theorem dX9_who_16 : decode cX9_who 16 = .ok (.invokestatic 151, 3) := by decide +kernel
theorem dX9_who_19 : decode cX9_who 19 = .ok (.ifCond .eq 11, 3) := by decide +kernel
theorem dX9_who_22 : decode cX9_who 22 = .ok (.aload_n 3, 1) := by decide +kernel
theorem dX9_who_23 : decode cX9_who 23 = .ok (.iload_n 2, 1) := by decide +kernel
theorem dX9_who_24 : decode cX9_who 24 = .ok (.invokevirtual 155, 3) := by decide +kernel
theorem dX9_who_27 : decode cX9_who 27 = .ok (.goto 5, 3) := by decide +kernel
theorem dX9_who_30 : decode cX9_who 30 = .ok (.ldc 95, 2) := by decide +kernel
theorem dX9_who_32 : decode cX9_who 32 = .ok (.ireturn, 1) := by decide +kernel
theorem dX9_set_0 : decode cX9_set 0 = .ok (.iload_n 1, 1) := by decide +kernel
theorem dX9_set_1 : decode cX9_set 1 = .ok (.iconst 0, 1) := by decide +kernel
theorem dX9_set_2 : decode cX9_set 2 = .ok (.getstatic 156, 3) := by decide +kernel
theorem dX9_set_5 : decode cX9_set 5 = .ok (.arraylength, 1) := by decide +kernel
theorem dX9_set_6 : decode cX9_set 6 = .ok (.iconst 1, 1) := by decide +kernel
theorem dX9_set_7 : decode cX9_set 7 = .ok (.isub, 1) := by decide +kernel
theorem dX9_set_8 : decode cX9_set 8 = .ok (.invokestatic 151, 3) := by decide +kernel
theorem dX9_set_11 : decode cX9_set 11 = .ok (.ifCond .eq 16, 3) := by decide +kernel
theorem dX9_set_14 : decode cX9_set 14 = .ok (.iload_n 2, 1) := by decide +kernel
theorem dX9_set_15 : decode cX9_set 15 = .ok (.iconst 0, 1) := by decide +kernel
theorem dX9_set_16 : decode cX9_set 16 = .ok (.aload_n 0, 1) := by decide +kernel
theorem dX9_set_17 : decode cX9_set 17 = .ok (.iload_n 1, 1) := by decide +kernel
theorem dX9_set_18 : decode cX9_set 18 = .ok (.invokevirtual 159, 3) := by decide +kernel
theorem dX9_set_21 : decode cX9_set 21 = .ok (.invokestatic 151, 3) := by decide +kernel
theorem dX9_set_24 : decode cX9_set 24 = .ok (.ifCond .ne 6, 3) := by decide +kernel
theorem dX9_set_27 : decode cX9_set 27 = .ok (.ldc 95, 2) := by decide +kernel
theorem dX9_set_29 : decode cX9_set 29 = .ok (.ireturn, 1) := by decide +kernel
theorem dX9_set_30 : decode cX9_set 30 = .ok (.aload_n 0, 1) := by decide +kernel
theorem dX9_set_31 : decode cX9_set 31 = .ok (.getfield 45, 3) := by decide +kernel
theorem dX9_set_34 : decode cX9_set 34 = .ok (.iload_n 1, 1) := by decide +kernel
theorem dX9_set_35 : decode cX9_set 35 = .ok (.invokevirtual 162, 3) := by decide +kernel
theorem dX9_set_38 : decode cX9_set 38 = .ok (.istore_n 3, 1) := by decide +kernel
theorem dX9_set_39 : decode cX9_set 39 = .ok (.aload_n 0, 1) := by decide +kernel
theorem dX9_set_40 : decode cX9_set 40 = .ok (.getfield 45, 3) := by decide +kernel
theorem dX9_set_43 : decode cX9_set 43 = .ok (.iload_n 1, 1) := by decide +kernel
theorem dX9_set_44 : decode cX9_set 44 = .ok (.iload_n 2, 1) := by decide +kernel
theorem dX9_set_45 : decode cX9_set 45 = .ok (.invokevirtual 165, 3) := by decide +kernel
theorem dX9_set_48 : decode cX9_set 48 = .ok (.iload_n 3, 1) := by decide +kernel
theorem dX9_set_49 : decode cX9_set 49 = .ok (.ireturn, 1) := by decide +kernel
theorem dX9_now_0 : decode cX9_now 0 = .ok (.iload_n 1, 1) := by decide +kernel
theorem dX9_now_1 : decode cX9_now 1 = .ok (.ifCond .lt 9, 3) := by decide +kernel
theorem dX9_now_4 : decode cX9_now 4 = .ok (.iload_n 1, 1) := by decide +kernel
theorem dX9_now_5 : decode cX9_now 5 = .ok (.bipush 7, 2) := by decide +kernel
theorem dX9_now_7 : decode cX9_now 7 = .ok (.if_icmp .le 6, 3) := by decide +kernel
theorem dX9_now_10 : decode cX9_now 10 = .ok (.ldc 95, 2) := by decide +kernel
theorem dX9_now_12 : decode cX9_now 12 = .ok (.ireturn, 1) := by decide +kernel
theorem dX9_now_13 : decode cX9_now 13 = .ok (.iload_n 1, 1) := by decide +kernel
theorem dX9_now_14 : decode cX9_now 14 = .ok (.tableswitch 49 5 7 #[26, 31, 44], 26) := by decide +kernel
theorem dX9_now_40 : decode cX9_now 40 = .ok (.aload_n 0, 1) := by decide +kernel
theorem dX9_now_41 : decode cX9_now 41 = .ok (.invokevirtual 169, 3) := by decide +kernel
theorem dX9_now_44 : decode cX9_now 44 = .ok (.ireturn, 1) := by decide +kernel
theorem dX9_now_45 : decode cX9_now 45 = .ok (.aload_n 0, 1) := by decide +kernel
theorem dX9_now_46 : decode cX9_now 46 = .ok (.aload_n 0, 1) := by decide +kernel
theorem dX9_now_47 : decode cX9_now 47 = .ok (.getfield 45, 3) := by decide +kernel
theorem dX9_now_50 : decode cX9_now 50 = .ok (.iconst 2, 1) := by decide +kernel
theorem dX9_now_51 : decode cX9_now 51 = .ok (.invokevirtual 162, 3) := by decide +kernel
theorem dX9_now_54 : decode cX9_now 54 = .ok (.invokevirtual 172, 3) := by decide +kernel
theorem dX9_now_57 : decode cX9_now 57 = .ok (.ireturn, 1) := by decide +kernel
theorem dX9_now_58 : decode cX9_now 58 = .ok (.aload_n 0, 1) := by decide +kernel
theorem dX9_now_59 : decode cX9_now 59 = .ok (.invokevirtual 140, 3) := by decide +kernel
theorem dX9_now_62 : decode cX9_now 62 = .ok (.ireturn, 1) := by decide +kernel
theorem dX9_now_63 : decode cX9_now 63 = .ok (.aload_n 0, 1) := by decide +kernel
theorem dX9_now_64 : decode cX9_now 64 = .ok (.getfield 45, 3) := by decide +kernel
theorem dX9_now_67 : decode cX9_now 67 = .ok (.iload_n 1, 1) := by decide +kernel
theorem dX9_now_68 : decode cX9_now 68 = .ok (.invokevirtual 162, 3) := by decide +kernel
theorem dX9_now_71 : decode cX9_now 71 = .ok (.ireturn, 1) := by decide +kernel
theorem dX9_sine_0 : decode cX9_sine 0 = .ok (.iload_n 1, 1) := by decide +kernel
theorem dX9_sine_1 : decode cX9_sine 1 = .ok (.sipush (-1800), 3) := by decide +kernel
theorem dX9_sine_4 : decode cX9_sine 4 = .ok (.sipush 1800, 3) := by decide +kernel
theorem dX9_sine_7 : decode cX9_sine 7 = .ok (.invokestatic 151, 3) := by decide +kernel
theorem dX9_sine_10 : decode cX9_sine 10 = .ok (.ifCond .eq 10, 3) := by decide +kernel
theorem dX9_sine_13 : decode cX9_sine 13 = .ok (.iload_n 1, 1) := by decide +kernel
theorem dX9_sine_14 : decode cX9_sine 14 = .ok (.invokestatic 175, 3) := by decide +kernel
theorem dX9_sine_17 : decode cX9_sine 17 = .ok (.goto 5, 3) := by decide +kernel
theorem dX9_sine_20 : decode cX9_sine 20 = .ok (.ldc 95, 2) := by decide +kernel
theorem dX9_sine_22 : decode cX9_sine 22 = .ok (.ireturn, 1) := by decide +kernel
theorem dX9_holds_0 : decode cX9_holds 0 = .ok (.aload_n 0, 1) := by decide +kernel
theorem dX9_holds_1 : decode cX9_holds 1 = .ok (.iload_n 1, 1) := by decide +kernel
theorem dX9_holds_2 : decode cX9_holds 2 = .ok (.invokevirtual 147, 3) := by decide +kernel
theorem dX9_holds_5 : decode cX9_holds 5 = .ok (.astore 4, 2) := by decide +kernel
theorem dX9_holds_7 : decode cX9_holds 7 = .ok (.aload 4, 2) := by decide +kernel
theorem dX9_holds_9 : decode cX9_holds 9 = .ok (.ifnonnull 6, 3) := by decide +kernel
theorem dX9_holds_12 : decode cX9_holds 12 = .ok (.ldc 136, 2) := by decide +kernel
theorem dX9_holds_14 : decode cX9_holds 14 = .ok (.ireturn, 1) := by decide +kernel
theorem dX9_holds_15 : decode cX9_holds 15 = .ok (.iload_n 2, 1) := by decide +kernel
theorem dX9_holds_16 : decode cX9_holds 16 = .ok (.iconst 0, 1) := by decide +kernel
theorem dX9_holds_17 : decode cX9_holds 17 = .ok (.sipush 200, 3) := by decide +kernel
theorem dX9_holds_20 : decode cX9_holds 20 = .ok (.invokestatic 151, 3) := by decide +kernel
theorem dX9_holds_23 : decode cX9_holds 23 = .ok (.ifCond .eq 12, 3) := by decide +kernel
theorem dX9_holds_26 : decode cX9_holds 26 = .ok (.iload_n 3, 1) := by decide +kernel
theorem dX9_holds_27 : decode cX9_holds 27 = .ok (.iconst 0, 1) := by decide +kernel
theorem dX9_holds_28 : decode cX9_holds 28 = .ok (.iconst 5, 1) := by decide +kernel
theorem dX9_holds_29 : decode cX9_holds 29 = .ok (.invokestatic 151, 3) := by decide +kernel
theorem dX9_holds_32 : decode cX9_holds 32 = .ok (.ifCond .ne 6, 3) := by decide +kernel
theorem dX9_holds_35 : decode cX9_holds 35 = .ok (.ldc 95, 2) := by decide +kernel
theorem dX9_holds_37 : decode cX9_holds 37 = .ok (.ireturn, 1) := by decide +kernel
theorem dX9_holds_38 : decode cX9_holds 38 = .ok (.aload_n 0, 1) := by decide +kernel
theorem dX9_holds_39 : decode cX9_holds 39 = .ok (.invokevirtual 178, 3) := by decide +kernel
theorem dX9_holds_42 : decode cX9_holds 42 = .ok (.iload_n 3, 1) := by decide +kernel
theorem dX9_holds_43 : decode cX9_holds 43 = .ok (.tableswitch 92 0 4 #[33, 42, 51, 60, 69], 33) := by decide +kernel
theorem dX9_holds_76 : decode cX9_holds 76 = .ok (.aload_n 0, 1) := by decide +kernel
theorem dX9_holds_77 : decode cX9_holds 77 = .ok (.getfield 63, 3) := by decide +kernel
theorem dX9_holds_80 : decode cX9_holds 80 = .ok (.iload_n 2, 1) := by decide +kernel
theorem dX9_holds_81 : decode cX9_holds 81 = .ok (.invokevirtual 181, 3) := by decide +kernel
theorem dX9_holds_84 : decode cX9_holds 84 = .ok (.ireturn, 1) := by decide +kernel
theorem dX9_holds_85 : decode cX9_holds 85 = .ok (.aload_n 0, 1) := by decide +kernel
theorem dX9_holds_86 : decode cX9_holds 86 = .ok (.getfield 63, 3) := by decide +kernel
theorem dX9_holds_89 : decode cX9_holds 89 = .ok (.iload_n 2, 1) := by decide +kernel
theorem dX9_holds_90 : decode cX9_holds 90 = .ok (.invokevirtual 184, 3) := by decide +kernel
theorem dX9_holds_93 : decode cX9_holds 93 = .ok (.ireturn, 1) := by decide +kernel
theorem dX9_holds_94 : decode cX9_holds 94 = .ok (.aload_n 0, 1) := by decide +kernel
theorem dX9_holds_95 : decode cX9_holds 95 = .ok (.getfield 63, 3) := by decide +kernel
theorem dX9_holds_98 : decode cX9_holds 98 = .ok (.iload_n 2, 1) := by decide +kernel
theorem dX9_holds_99 : decode cX9_holds 99 = .ok (.invokevirtual 187, 3) := by decide +kernel
theorem dX9_holds_102 : decode cX9_holds 102 = .ok (.ireturn, 1) := by decide +kernel
theorem dX9_holds_103 : decode cX9_holds 103 = .ok (.aload_n 0, 1) := by decide +kernel
theorem dX9_holds_104 : decode cX9_holds 104 = .ok (.getfield 63, 3) := by decide +kernel
theorem dX9_holds_107 : decode cX9_holds 107 = .ok (.iload_n 2, 1) := by decide +kernel
theorem dX9_holds_108 : decode cX9_holds 108 = .ok (.invokevirtual 190, 3) := by decide +kernel
theorem dX9_holds_111 : decode cX9_holds 111 = .ok (.ireturn, 1) := by decide +kernel
theorem dX9_holds_112 : decode cX9_holds 112 = .ok (.iload_n 2, 1) := by decide +kernel
theorem dX9_holds_113 : decode cX9_holds 113 = .ok (.ifCond .ne 7, 3) := by decide +kernel
theorem dX9_holds_116 : decode cX9_holds 116 = .ok (.iconst 0, 1) := by decide +kernel
theorem dX9_holds_117 : decode cX9_holds 117 = .ok (.goto 17, 3) := by decide +kernel
theorem dX9_holds_120 : decode cX9_holds 120 = .ok (.aload_n 0, 1) := by decide +kernel
theorem dX9_holds_121 : decode cX9_holds 121 = .ok (.getfield 63, 3) := by decide +kernel
theorem dX9_holds_124 : decode cX9_holds 124 = .ok (.iload_n 2, 1) := by decide +kernel
theorem dX9_holds_125 : decode cX9_holds 125 = .ok (.aload 4, 2) := by decide +kernel
theorem dX9_holds_127 : decode cX9_holds 127 = .ok (.iconst 0, 1) := by decide +kernel
theorem dX9_holds_128 : decode cX9_holds 128 = .ok (.invokevirtual 155, 3) := by decide +kernel
theorem dX9_holds_131 : decode cX9_holds 131 = .ok (.invokevirtual 193, 3) := by decide +kernel
theorem dX9_holds_134 : decode cX9_holds 134 = .ok (.ireturn, 1) := by decide +kernel
theorem dX9_holds_135 : decode cX9_holds 135 = .ok (.aload_n 0, 1) := by decide +kernel
theorem dX9_holds_136 : decode cX9_holds 136 = .ok (.getfield 63, 3) := by decide +kernel
theorem dX9_holds_139 : decode cX9_holds 139 = .ok (.iload_n 2, 1) := by decide +kernel
theorem dX9_holds_140 : decode cX9_holds 140 = .ok (.aload 4, 2) := by decide +kernel
theorem dX9_holds_142 : decode cX9_holds 142 = .ok (.iconst 0, 1) := by decide +kernel
theorem dX9_holds_143 : decode cX9_holds 143 = .ok (.invokevirtual 155, 3) := by decide +kernel
theorem dX9_holds_146 : decode cX9_holds 146 = .ok (.aload 4, 2) := by decide +kernel
theorem dX9_holds_148 : decode cX9_holds 148 = .ok (.iconst 2, 1) := by decide +kernel
theorem dX9_holds_149 : decode cX9_holds 149 = .ok (.invokevirtual 155, 3) := by decide +kernel
theorem dX9_holds_152 : decode cX9_holds 152 = .ok (.invokevirtual 196, 3) := by decide +kernel
theorem dX9_holds_155 : decode cX9_holds 155 = .ok (.ireturn, 1) := by decide +kernel
theorem dX9_lands_0 : decode cX9_lands 0 = .ok (.aload_n 0, 1) := by decide +kernel
theorem dX9_lands_1 : decode cX9_lands 1 = .ok (.iload_n 1, 1) := by decide +kernel
theorem dX9_lands_2 : decode cX9_lands 2 = .ok (.invokevirtual 147, 3) := by decide +kernel
theorem dX9_lands_5 : decode cX9_lands 5 = .ok (.astore 4, 2) := by decide +kernel
theorem dX9_lands_7 : decode cX9_lands 7 = .ok (.aload 4, 2) := by decide +kernel
theorem dX9_lands_9 : decode cX9_lands 9 = .ok (.ifnonnull 6, 3) := by decide +kernel
theorem dX9_lands_12 : decode cX9_lands 12 = .ok (.ldc 136, 2) := by decide +kernel
theorem dX9_lands_14 : decode cX9_lands 14 = .ok (.ireturn, 1) := by decide +kernel
theorem dX9_lands_15 : decode cX9_lands 15 = .ok (.iload_n 2, 1) := by decide +kernel
theorem dX9_lands_16 : decode cX9_lands 16 = .ok (.iconst 1, 1) := by decide +kernel
theorem dX9_lands_17 : decode cX9_lands 17 = .ok (.sipush 200, 3) := by decide +kernel
theorem dX9_lands_20 : decode cX9_lands 20 = .ok (.invokestatic 151, 3) := by decide +kernel
theorem dX9_lands_23 : decode cX9_lands 23 = .ok (.ifCond .eq 12, 3) := by decide +kernel
theorem dX9_lands_26 : decode cX9_lands 26 = .ok (.iload_n 3, 1) := by decide +kernel
theorem dX9_lands_27 : decode cX9_lands 27 = .ok (.iconst 0, 1) := by decide +kernel
theorem dX9_lands_28 : decode cX9_lands 28 = .ok (.iconst 5, 1) := by decide +kernel
theorem dX9_lands_29 : decode cX9_lands 29 = .ok (.invokestatic 151, 3) := by decide +kernel
theorem dX9_lands_32 : decode cX9_lands 32 = .ok (.ifCond .ne 6, 3) := by decide +kernel
theorem dX9_lands_35 : decode cX9_lands 35 = .ok (.ldc 95, 2) := by decide +kernel
theorem dX9_lands_37 : decode cX9_lands 37 = .ok (.ireturn, 1) := by decide +kernel
theorem dX9_lands_38 : decode cX9_lands 38 = .ok (.aload_n 0, 1) := by decide +kernel
theorem dX9_lands_39 : decode cX9_lands 39 = .ok (.aload 4, 2) := by decide +kernel
theorem dX9_lands_41 : decode cX9_lands 41 = .ok (.invokevirtual 200, 3) := by decide +kernel
theorem dX9_lands_44 : decode cX9_lands 44 = .ok (.aload_n 0, 1) := by decide +kernel
theorem dX9_lands_45 : decode cX9_lands 45 = .ok (.getfield 72, 3) := by decide +kernel
theorem dX9_lands_48 : decode cX9_lands 48 = .ok (.iload_n 2, 1) := by decide +kernel
theorem dX9_lands_49 : decode cX9_lands 49 = .ok (.aload_n 0, 1) := by decide +kernel
theorem dX9_lands_50 : decode cX9_lands 50 = .ok (.getfield 72, 3) := by decide +kernel
theorem dX9_lands_53 : decode cX9_lands 53 = .ok (.getfield 204, 3) := by decide +kernel
theorem dX9_lands_56 : decode cX9_lands 56 = .ok (.iadd, 1) := by decide +kernel
theorem dX9_lands_57 : decode cX9_lands 57 = .ok (.invokevirtual 207, 3) := by decide +kernel
theorem dX9_lands_60 : decode cX9_lands 60 = .ok (.iload_n 3, 1) := by decide +kernel
theorem dX9_lands_61 : decode cX9_lands 61 = .ok (.tableswitch 75 0 4 #[35, 43, 51, 59, 67], 35) := by decide +kernel
theorem dX9_lands_96 : decode cX9_lands 96 = .ok (.aload_n 0, 1) := by decide +kernel
theorem dX9_lands_97 : decode cX9_lands 97 = .ok (.getfield 72, 3) := by decide +kernel
theorem dX9_lands_100 : decode cX9_lands 100 = .ok (.getfield 210, 3) := by decide +kernel
theorem dX9_lands_103 : decode cX9_lands 103 = .ok (.ireturn, 1) := by decide +kernel
theorem dX9_lands_104 : decode cX9_lands 104 = .ok (.aload_n 0, 1) := by decide +kernel
theorem dX9_lands_105 : decode cX9_lands 105 = .ok (.getfield 72, 3) := by decide +kernel
theorem dX9_lands_108 : decode cX9_lands 108 = .ok (.getfield 213, 3) := by decide +kernel
theorem dX9_lands_111 : decode cX9_lands 111 = .ok (.ireturn, 1) := by decide +kernel
theorem dX9_lands_112 : decode cX9_lands 112 = .ok (.aload_n 0, 1) := by decide +kernel
theorem dX9_lands_113 : decode cX9_lands 113 = .ok (.getfield 72, 3) := by decide +kernel
theorem dX9_lands_116 : decode cX9_lands 116 = .ok (.getfield 216, 3) := by decide +kernel
theorem dX9_lands_119 : decode cX9_lands 119 = .ok (.ireturn, 1) := by decide +kernel
theorem dX9_lands_120 : decode cX9_lands 120 = .ok (.aload_n 0, 1) := by decide +kernel
theorem dX9_lands_121 : decode cX9_lands 121 = .ok (.getfield 72, 3) := by decide +kernel
theorem dX9_lands_124 : decode cX9_lands 124 = .ok (.getfield 219, 3) := by decide +kernel
theorem dX9_lands_127 : decode cX9_lands 127 = .ok (.ireturn, 1) := by decide +kernel
theorem dX9_lands_128 : decode cX9_lands 128 = .ok (.aload_n 0, 1) := by decide +kernel
theorem dX9_lands_129 : decode cX9_lands 129 = .ok (.getfield 72, 3) := by decide +kernel
theorem dX9_lands_132 : decode cX9_lands 132 = .ok (.getfield 222, 3) := by decide +kernel
theorem dX9_lands_135 : decode cX9_lands 135 = .ok (.ireturn, 1) := by decide +kernel
theorem dX9_lands_136 : decode cX9_lands 136 = .ok (.aload_n 0, 1) := by decide +kernel
theorem dX9_lands_137 : decode cX9_lands 137 = .ok (.getfield 72, 3) := by decide +kernel
theorem dX9_lands_140 : decode cX9_lands 140 = .ok (.getfield 225, 3) := by decide +kernel
theorem dX9_lands_143 : decode cX9_lands 143 = .ok (.ireturn, 1) := by decide +kernel
theorem dX9_best_0 : decode cX9_best 0 = .ok (.aload_n 0, 1) := by decide +kernel
theorem dX9_best_1 : decode cX9_best 1 = .ok (.iload_n 1, 1) := by decide +kernel
theorem dX9_best_2 : decode cX9_best 2 = .ok (.invokevirtual 147, 3) := by decide +kernel
theorem dX9_best_5 : decode cX9_best 5 = .ok (.astore_n 3, 1) := by decide +kernel
theorem dX9_best_6 : decode cX9_best 6 = .ok (.aload_n 3, 1) := by decide +kernel
theorem dX9_best_7 : decode cX9_best 7 = .ok (.ifnonnull 6, 3) := by decide +kernel
theorem dX9_best_10 : decode cX9_best 10 = .ok (.ldc 136, 2) := by decide +kernel
theorem dX9_best_12 : decode cX9_best 12 = .ok (.ireturn, 1) := by decide +kernel
theorem dX9_best_13 : decode cX9_best 13 = .ok (.iload_n 2, 1) := by decide +kernel
theorem dX9_best_14 : decode cX9_best 14 = .ok (.ifCond .lt 8, 3) := by decide +kernel
theorem dX9_best_17 : decode cX9_best 17 = .ok (.iload_n 2, 1) := by decide +kernel
theorem dX9_best_18 : decode cX9_best 18 = .ok (.iconst 1, 1) := by decide +kernel
theorem dX9_best_19 : decode cX9_best 19 = .ok (.if_icmp .le 6, 3) := by decide +kernel
theorem dX9_best_22 : decode cX9_best 22 = .ok (.ldc 95, 2) := by decide +kernel
theorem dX9_best_24 : decode cX9_best 24 = .ok (.ireturn, 1) := by decide +kernel
theorem dX9_best_25 : decode cX9_best 25 = .ok (.aload_n 0, 1) := by decide +kernel
theorem dX9_best_26 : decode cX9_best 26 = .ok (.aload_n 3, 1) := by decide +kernel
theorem dX9_best_27 : decode cX9_best 27 = .ok (.invokevirtual 200, 3) := by decide +kernel
theorem dX9_best_30 : decode cX9_best 30 = .ok (.aload_n 0, 1) := by decide +kernel
theorem dX9_best_31 : decode cX9_best 31 = .ok (.getfield 79, 3) := by decide +kernel
theorem dX9_best_34 : decode cX9_best 34 = .ok (.aload_n 0, 1) := by decide +kernel
theorem dX9_best_35 : decode cX9_best 35 = .ok (.getfield 72, 3) := by decide +kernel
theorem dX9_best_38 : decode cX9_best 38 = .ok (.invokevirtual 228, 3) := by decide +kernel
theorem dX9_best_41 : decode cX9_best 41 = .ok (.iload_n 2, 1) := by decide +kernel
theorem dX9_best_42 : decode cX9_best 42 = .ok (.ifCond .ne 13, 3) := by decide +kernel
theorem dX9_best_45 : decode cX9_best 45 = .ok (.aload_n 0, 1) := by decide +kernel
theorem dX9_best_46 : decode cX9_best 46 = .ok (.getfield 79, 3) := by decide +kernel
theorem dX9_best_49 : decode cX9_best 49 = .ok (.getfield 232, 3) := by decide +kernel
theorem dX9_best_52 : decode cX9_best 52 = .ok (.goto 10, 3) := by decide +kernel
theorem dX9_best_55 : decode cX9_best 55 = .ok (.aload_n 0, 1) := by decide +kernel
theorem dX9_best_56 : decode cX9_best 56 = .ok (.getfield 79, 3) := by decide +kernel
theorem dX9_best_59 : decode cX9_best 59 = .ok (.getfield 234, 3) := by decide +kernel
theorem dX9_best_62 : decode cX9_best 62 = .ok (.ireturn, 1) := by decide +kernel
theorem dX9_wide_0 : decode cX9_wide 0 = .ok (.aload_n 0, 1) := by decide +kernel
theorem dX9_wide_1 : decode cX9_wide 1 = .ok (.iload_n 1, 1) := by decide +kernel
theorem dX9_wide_2 : decode cX9_wide 2 = .ok (.invokevirtual 147, 3) := by decide +kernel
theorem dX9_wide_5 : decode cX9_wide 5 = .ok (.astore_n 3, 1) := by decide +kernel
theorem dX9_wide_6 : decode cX9_wide 6 = .ok (.aload_n 3, 1) := by decide +kernel
theorem dX9_wide_7 : decode cX9_wide 7 = .ok (.ifnonnull 6, 3) := by decide +kernel
theorem dX9_wide_10 : decode cX9_wide 10 = .ok (.ldc 136, 2) := by decide +kernel
theorem dX9_wide_12 : decode cX9_wide 12 = .ok (.ireturn, 1) := by decide +kernel
theorem dX9_wide_13 : decode cX9_wide 13 = .ok (.iload_n 2, 1) := by decide +kernel
theorem dX9_wide_14 : decode cX9_wide 14 = .ok (.ifCond .lt 8, 3) := by decide +kernel
theorem dX9_wide_17 : decode cX9_wide 17 = .ok (.iload_n 2, 1) := by decide +kernel
theorem dX9_wide_18 : decode cX9_wide 18 = .ok (.iconst 2, 1) := by decide +kernel
theorem dX9_wide_19 : decode cX9_wide 19 = .ok (.if_icmp .le 6, 3) := by decide +kernel
theorem dX9_wide_22 : decode cX9_wide 22 = .ok (.ldc 95, 2) := by decide +kernel
theorem dX9_wide_24 : decode cX9_wide 24 = .ok (.ireturn, 1) := by decide +kernel
theorem dX9_wide_25 : decode cX9_wide 25 = .ok (.aload_n 0, 1) := by decide +kernel
theorem dX9_wide_26 : decode cX9_wide 26 = .ok (.aload_n 3, 1) := by decide +kernel
theorem dX9_wide_27 : decode cX9_wide 27 = .ok (.invokevirtual 200, 3) := by decide +kernel
theorem dX9_wide_30 : decode cX9_wide 30 = .ok (.aload_n 0, 1) := by decide +kernel
theorem dX9_wide_31 : decode cX9_wide 31 = .ok (.getfield 79, 3) := by decide +kernel
theorem dX9_wide_34 : decode cX9_wide 34 = .ok (.aload_n 0, 1) := by decide +kernel
theorem dX9_wide_35 : decode cX9_wide 35 = .ok (.getfield 72, 3) := by decide +kernel
theorem dX9_wide_38 : decode cX9_wide 38 = .ok (.invokevirtual 228, 3) := by decide +kernel
theorem dX9_wide_41 : decode cX9_wide 41 = .ok (.iload_n 2, 1) := by decide +kernel
theorem dX9_wide_42 : decode cX9_wide 42 = .ok (.ifCond .ne 11, 3) := by decide +kernel
theorem dX9_wide_45 : decode cX9_wide 45 = .ok (.aload_n 0, 1) := by decide +kernel
theorem dX9_wide_46 : decode cX9_wide 46 = .ok (.getfield 79, 3) := by decide +kernel
theorem dX9_wide_49 : decode cX9_wide 49 = .ok (.getfield 235, 3) := by decide +kernel
theorem dX9_wide_52 : decode cX9_wide 52 = .ok (.ireturn, 1) := by decide +kernel
theorem dX9_wide_53 : decode cX9_wide 53 = .ok (.iload_n 2, 1) := by decide +kernel
theorem dX9_wide_54 : decode cX9_wide 54 = .ok (.iconst 1, 1) := by decide +kernel
theorem dX9_wide_55 : decode cX9_wide 55 = .ok (.if_icmp .ne 13, 3) := by decide +kernel
theorem dX9_wide_58 : decode cX9_wide 58 = .ok (.aload_n 0, 1) := by decide +kernel
theorem dX9_wide_59 : decode cX9_wide 59 = .ok (.getfield 79, 3) := by decide +kernel
theorem dX9_wide_62 : decode cX9_wide 62 = .ok (.getfield 238, 3) := by decide +kernel
theorem dX9_wide_65 : decode cX9_wide 65 = .ok (.goto 10, 3) := by decide +kernel
theorem dX9_wide_68 : decode cX9_wide 68 = .ok (.aload_n 0, 1) := by decide +kernel
theorem dX9_wide_69 : decode cX9_wide 69 = .ok (.getfield 79, 3) := by decide +kernel
theorem dX9_wide_72 : decode cX9_wide 72 = .ok (.getfield 241, 3) := by decide +kernel
theorem dX9_wide_75 : decode cX9_wide 75 = .ok (.ireturn, 1) := by decide +kernel
theorem dX9_odds_0 : decode cX9_odds 0 = .ok (.aload_n 0, 1) := by decide +kernel
theorem dX9_odds_1 : decode cX9_odds 1 = .ok (.iload_n 1, 1) := by decide +kernel
theorem dX9_odds_2 : decode cX9_odds 2 = .ok (.invokevirtual 147, 3) := by decide +kernel
theorem dX9_odds_5 : decode cX9_odds 5 = .ok (.astore 4, 2) := by decide +kernel
theorem dX9_odds_7 : decode cX9_odds 7 = .ok (.aload 4, 2) := by decide +kernel
theorem dX9_odds_9 : decode cX9_odds 9 = .ok (.ifnonnull 6, 3) := by decide +kernel
theorem dX9_odds_12 : decode cX9_odds 12 = .ok (.ldc 136, 2) := by decide +kernel
theorem dX9_odds_14 : decode cX9_odds 14 = .ok (.ireturn, 1) := by decide +kernel
theorem dX9_odds_15 : decode cX9_odds 15 = .ok (.iload_n 2, 1) := by decide +kernel
theorem dX9_odds_16 : decode cX9_odds 16 = .ok (.iconst 1, 1) := by decide +kernel
theorem dX9_odds_17 : decode cX9_odds 17 = .ok (.sipush 200, 3) := by decide +kernel
theorem dX9_odds_20 : decode cX9_odds 20 = .ok (.invokestatic 151, 3) := by decide +kernel
theorem dX9_odds_23 : decode cX9_odds 23 = .ok (.ifCond .eq 13, 3) := by decide +kernel
theorem dX9_odds_26 : decode cX9_odds 26 = .ok (.iload_n 3, 1) := by decide +kernel
theorem dX9_odds_27 : decode cX9_odds 27 = .ok (.iconst 0, 1) := by decide +kernel
theorem dX9_odds_28 : decode cX9_odds 28 = .ok (.bipush 40, 2) := by decide +kernel
theorem dX9_odds_30 : decode cX9_odds 30 = .ok (.invokestatic 151, 3) := by decide +kernel
theorem dX9_odds_33 : decode cX9_odds 33 = .ok (.ifCond .ne 6, 3) := by decide +kernel
theorem dX9_odds_36 : decode cX9_odds 36 = .ok (.ldc 95, 2) := by decide +kernel
theorem dX9_odds_38 : decode cX9_odds 38 = .ok (.ireturn, 1) := by decide +kernel
theorem dX9_odds_39 : decode cX9_odds 39 = .ok (.aload_n 0, 1) := by decide +kernel
theorem dX9_odds_40 : decode cX9_odds 40 = .ok (.aload 4, 2) := by decide +kernel
theorem dX9_odds_42 : decode cX9_odds 42 = .ok (.invokevirtual 200, 3) := by decide +kernel
theorem dX9_odds_45 : decode cX9_odds 45 = .ok (.iconst 0, 1) := by decide +kernel
theorem dX9_odds_46 : decode cX9_odds 46 = .ok (.istore 5, 2) := by decide +kernel
theorem dX9_odds_48 : decode cX9_odds 48 = .ok (.iconst 0, 1) := by decide +kernel
theorem dX9_odds_49 : decode cX9_odds 49 = .ok (.istore 6, 2) := by decide +kernel
theorem dX9_odds_51 : decode cX9_odds 51 = .ok (.iload 6, 2) := by decide +kernel
theorem dX9_odds_53 : decode cX9_odds 53 = .ok (.iload_n 3, 1) := by decide +kernel
theorem dX9_odds_54 : decode cX9_odds 54 = .ok (.if_icmp .gt 34, 3) := by decide +kernel
theorem dX9_odds_57 : decode cX9_odds 57 = .ok (.aload_n 0, 1) := by decide +kernel
theorem dX9_odds_58 : decode cX9_odds 58 = .ok (.getfield 72, 3) := by decide +kernel
theorem dX9_odds_61 : decode cX9_odds 61 = .ok (.iload_n 2, 1) := by decide +kernel
theorem dX9_odds_62 : decode cX9_odds 62 = .ok (.aload_n 0, 1) := by decide +kernel
theorem dX9_odds_63 : decode cX9_odds 63 = .ok (.getfield 72, 3) := by decide +kernel
theorem dX9_odds_66 : decode cX9_odds 66 = .ok (.getfield 204, 3) := by decide +kernel
theorem dX9_odds_69 : decode cX9_odds 69 = .ok (.iadd, 1) := by decide +kernel
theorem dX9_odds_70 : decode cX9_odds 70 = .ok (.iload 6, 2) := by decide +kernel
theorem dX9_odds_72 : decode cX9_odds 72 = .ok (.iadd, 1) := by decide +kernel
theorem dX9_odds_73 : decode cX9_odds 73 = .ok (.invokevirtual 244, 3) := by decide +kernel
theorem dX9_odds_76 : decode cX9_odds 76 = .ok (.ifCond .eq 6, 3) := by decide +kernel
theorem dX9_odds_79 : decode cX9_odds 79 = .ok (.iinc 5 1, 3) := by decide +kernel
theorem dX9_odds_82 : decode cX9_odds 82 = .ok (.iinc 6 1, 3) := by decide +kernel
theorem dX9_odds_85 : decode cX9_odds 85 = .ok (.goto (-34), 3) := by decide +kernel
theorem dX9_odds_88 : decode cX9_odds 88 = .ok (.ldc 248, 2) := by decide +kernel
theorem dX9_odds_90 : decode cX9_odds 90 = .ok (.iload 5, 2) := by decide +kernel
theorem dX9_odds_92 : decode cX9_odds 92 = .ok (.imul, 1) := by decide +kernel
theorem dX9_odds_93 : decode cX9_odds 93 = .ok (.iload_n 3, 1) := by decide +kernel
theorem dX9_odds_94 : decode cX9_odds 94 = .ok (.iconst 1, 1) := by decide +kernel
theorem dX9_odds_95 : decode cX9_odds 95 = .ok (.iadd, 1) := by decide +kernel
theorem dX9_odds_96 : decode cX9_odds 96 = .ok (.invokestatic 249, 3) := by decide +kernel
theorem dX9_odds_99 : decode cX9_odds 99 = .ok (.ireturn, 1) := by decide +kernel
theorem dX9_strong_0 : decode cX9_strong 0 = .ok (.aload_n 0, 1) := by decide +kernel
theorem dX9_strong_1 : decode cX9_strong 1 = .ok (.iload_n 1, 1) := by decide +kernel
theorem dX9_strong_2 : decode cX9_strong 2 = .ok (.invokevirtual 147, 3) := by decide +kernel
theorem dX9_strong_5 : decode cX9_strong 5 = .ok (.astore_n 3, 1) := by decide +kernel
theorem dX9_strong_6 : decode cX9_strong 6 = .ok (.aload_n 3, 1) := by decide +kernel
theorem dX9_strong_7 : decode cX9_strong 7 = .ok (.ifnonnull 6, 3) := by decide +kernel
theorem dX9_strong_10 : decode cX9_strong 10 = .ok (.ldc 136, 2) := by decide +kernel
theorem dX9_strong_12 : decode cX9_strong 12 = .ok (.ireturn, 1) := by decide +kernel
theorem dX9_strong_13 : decode cX9_strong 13 = .ok (.iload_n 2, 1) := by decide +kernel
theorem dX9_strong_14 : decode cX9_strong 14 = .ok (.iconst 1, 1) := by decide +kernel
theorem dX9_strong_15 : decode cX9_strong 15 = .ok (.sipush 200, 3) := by decide +kernel
theorem dX9_strong_18 : decode cX9_strong 18 = .ok (.invokestatic 151, 3) := by decide +kernel
theorem dX9_strong_21 : decode cX9_strong 21 = .ok (.ifCond .ne 6, 3) := by decide +kernel
theorem dX9_strong_24 : decode cX9_strong 24 = .ok (.ldc 95, 2) := by decide +kernel
theorem dX9_strong_26 : decode cX9_strong 26 = .ok (.ireturn, 1) := by decide +kernel
theorem dX9_strong_27 : decode cX9_strong 27 = .ok (.aload_n 0, 1) := by decide +kernel
theorem dX9_strong_28 : decode cX9_strong 28 = .ok (.invokevirtual 178, 3) := by decide +kernel
theorem dX9_strong_31 : decode cX9_strong 31 = .ok (.iconst 2, 1) := by decide +kernel
theorem dX9_strong_32 : decode cX9_strong 32 = .ok (.invokestatic 252, 3) := by decide +kernel
theorem dX9_strong_35 : decode cX9_strong 35 = .ok (.istore 4, 2) := by decide +kernel
theorem dX9_strong_37 : decode cX9_strong 37 = .ok (.iload 4, 2) := by decide +kernel
theorem dX9_strong_39 : decode cX9_strong 39 = .ok (.iconst 2, 1) := by decide +kernel
theorem dX9_strong_40 : decode cX9_strong 40 = .ok (.invokestatic 255, 3) := by decide +kernel
theorem dX9_strong_43 : decode cX9_strong 43 = .ok (.if_icmp .gt 30, 3) := by decide +kernel
theorem dX9_strong_46 : decode cX9_strong 46 = .ok (.aload_n 0, 1) := by decide +kernel
theorem dX9_strong_47 : decode cX9_strong 47 = .ok (.getfield 63, 3) := by decide +kernel
theorem dX9_strong_50 : decode cX9_strong 50 = .ok (.iload_n 2, 1) := by decide +kernel
theorem dX9_strong_51 : decode cX9_strong 51 = .ok (.aload_n 3, 1) := by decide +kernel
theorem dX9_strong_52 : decode cX9_strong 52 = .ok (.iconst 0, 1) := by decide +kernel
theorem dX9_strong_53 : decode cX9_strong 53 = .ok (.invokevirtual 155, 3) := by decide +kernel
theorem dX9_strong_56 : decode cX9_strong 56 = .ok (.iload 4, 2) := by decide +kernel
theorem dX9_strong_58 : decode cX9_strong 58 = .ok (.invokevirtual 196, 3) := by decide +kernel
theorem dX9_strong_61 : decode cX9_strong 61 = .ok (.ifCond .lt 6, 3) := by decide +kernel
theorem dX9_strong_64 : decode cX9_strong 64 = .ok (.iload 4, 2) := by decide +kernel
theorem dX9_strong_66 : decode cX9_strong 66 = .ok (.ireturn, 1) := by decide +kernel
theorem dX9_strong_67 : decode cX9_strong 67 = .ok (.iinc 4 1, 3) := by decide +kernel
theorem dX9_strong_70 : decode cX9_strong 70 = .ok (.goto (-33), 3) := by decide +kernel
theorem dX9_strong_73 : decode cX9_strong 73 = .ok (.iconst (-1), 1) := by decide +kernel
theorem dX9_strong_74 : decode cX9_strong 74 = .ok (.ireturn, 1) := by decide +kernel
theorem dX9_heavy_0 : decode cX9_heavy 0 = .ok (.aload_n 0, 1) := by decide +kernel
theorem dX9_heavy_1 : decode cX9_heavy 1 = .ok (.invokevirtual 178, 3) := by decide +kernel
theorem dX9_heavy_4 : decode cX9_heavy 4 = .ok (.aload_n 0, 1) := by decide +kernel
theorem dX9_heavy_5 : decode cX9_heavy 5 = .ok (.aload_n 0, 1) := by decide +kernel
theorem dX9_heavy_6 : decode cX9_heavy 6 = .ok (.getfield 45, 3) := by decide +kernel
theorem dX9_heavy_9 : decode cX9_heavy 9 = .ok (.iconst 2, 1) := by decide +kernel
theorem dX9_heavy_10 : decode cX9_heavy 10 = .ok (.invokevirtual 162, 3) := by decide +kernel
theorem dX9_heavy_13 : decode cX9_heavy 13 = .ok (.invokevirtual 172, 3) := by decide +kernel
theorem dX9_heavy_16 : decode cX9_heavy 16 = .ok (.istore_n 1, 1) := by decide +kernel
theorem dX9_heavy_17 : decode cX9_heavy 17 = .ok (.iconst 0, 1) := by decide +kernel
theorem dX9_heavy_18 : decode cX9_heavy 18 = .ok (.invokestatic 255, 3) := by decide +kernel
theorem dX9_heavy_21 : decode cX9_heavy 21 = .ok (.istore_n 2, 1) := by decide +kernel
theorem dX9_heavy_22 : decode cX9_heavy 22 = .ok (.iload_n 2, 1) := by decide +kernel
theorem dX9_heavy_23 : decode cX9_heavy 23 = .ok (.iconst 0, 1) := by decide +kernel
theorem dX9_heavy_24 : decode cX9_heavy 24 = .ok (.invokestatic 252, 3) := by decide +kernel
theorem dX9_heavy_27 : decode cX9_heavy 27 = .ok (.if_icmp .lt 23, 3) := by decide +kernel
theorem dX9_heavy_30 : decode cX9_heavy 30 = .ok (.aload_n 0, 1) := by decide +kernel
theorem dX9_heavy_31 : decode cX9_heavy 31 = .ok (.getfield 63, 3) := by decide +kernel
theorem dX9_heavy_34 : decode cX9_heavy 34 = .ok (.iload_n 2, 1) := by decide +kernel
theorem dX9_heavy_35 : decode cX9_heavy 35 = .ok (.invokevirtual 258, 3) := by decide +kernel
theorem dX9_heavy_38 : decode cX9_heavy 38 = .ok (.iload_n 1, 1) := by decide +kernel
theorem dX9_heavy_39 : decode cX9_heavy 39 = .ok (.if_icmp .gt 5, 3) := by decide +kernel
theorem dX9_heavy_42 : decode cX9_heavy 42 = .ok (.iload_n 2, 1) := by decide +kernel
theorem dX9_heavy_43 : decode cX9_heavy 43 = .ok (.ireturn, 1) := by decide +kernel
theorem dX9_heavy_44 : decode cX9_heavy 44 = .ok (.iinc 2 (-1), 3) := by decide +kernel
theorem dX9_heavy_47 : decode cX9_heavy 47 = .ok (.goto (-25), 3) := by decide +kernel
theorem dX9_heavy_50 : decode cX9_heavy 50 = .ok (.iconst (-1), 1) := by decide +kernel
theorem dX9_heavy_51 : decode cX9_heavy 51 = .ok (.ireturn, 1) := by decide +kernel
theorem dX9_may_0 : decode cX9_may 0 = .ok (.iconst 0, 1) := by decide +kernel
theorem dX9_may_1 : decode cX9_may 1 = .ok (.istore_n 1, 1) := by decide +kernel
theorem dX9_may_2 : decode cX9_may 2 = .ok (.iconst 0, 1) := by decide +kernel
theorem dX9_may_3 : decode cX9_may 3 = .ok (.istore_n 2, 1) := by decide +kernel
theorem dX9_may_4 : decode cX9_may 4 = .ok (.iload_n 2, 1) := by decide +kernel
theorem dX9_may_5 : decode cX9_may 5 = .ok (.aload_n 0, 1) := by decide +kernel
theorem dX9_may_6 : decode cX9_may 6 = .ok (.getfield 125, 3) := by decide +kernel
theorem dX9_may_9 : decode cX9_may 9 = .ok (.if_icmp .ge 44, 3) := by decide +kernel
theorem dX9_may_12 : decode cX9_may 12 = .ok (.aload_n 0, 1) := by decide +kernel
theorem dX9_may_13 : decode cX9_may 13 = .ok (.iload_n 2, 1) := by decide +kernel
theorem dX9_may_14 : decode cX9_may 14 = .ok (.invokevirtual 147, 3) := by decide +kernel
theorem dX9_may_17 : decode cX9_may 17 = .ok (.astore_n 3, 1) := by decide +kernel
theorem dX9_may_18 : decode cX9_may 18 = .ok (.aload_n 3, 1) := by decide +kernel
theorem dX9_may_19 : decode cX9_may 19 = .ok (.ifnull 28, 3) := by decide +kernel
theorem dX9_may_22 : decode cX9_may 22 = .ok (.aload_n 0, 1) := by decide +kernel
theorem dX9_may_23 : decode cX9_may 23 = .ok (.aload_n 3, 1) := by decide +kernel
theorem dX9_may_24 : decode cX9_may 24 = .ok (.invokevirtual 200, 3) := by decide +kernel
theorem dX9_may_27 : decode cX9_may 27 = .ok (.iload_n 1, 1) := by decide +kernel
theorem dX9_may_28 : decode cX9_may 28 = .ok (.aload_n 0, 1) := by decide +kernel
theorem dX9_may_29 : decode cX9_may 29 = .ok (.getfield 72, 3) := by decide +kernel
theorem dX9_may_32 : decode cX9_may 32 = .ok (.invokevirtual 261, 3) := by decide +kernel
theorem dX9_may_35 : decode cX9_may 35 = .ok (.ifCond .eq 9, 3) := by decide +kernel
theorem dX9_may_38 : decode cX9_may 38 = .ok (.iconst 1, 1) := by decide +kernel
theorem dX9_may_39 : decode cX9_may 39 = .ok (.iload_n 2, 1) := by decide +kernel
theorem dX9_may_40 : decode cX9_may 40 = .ok (.ishl, 1) := by decide +kernel
theorem dX9_may_41 : decode cX9_may 41 = .ok (.goto 4, 3) := by decide +kernel
theorem dX9_may_44 : decode cX9_may 44 = .ok (.iconst 0, 1) := by decide +kernel
theorem dX9_may_45 : decode cX9_may 45 = .ok (.ior, 1) := by decide +kernel
theorem dX9_may_46 : decode cX9_may 46 = .ok (.istore_n 1, 1) := by decide +kernel
theorem dX9_may_47 : decode cX9_may 47 = .ok (.iinc 2 1, 3) := by decide +kernel
theorem dX9_may_50 : decode cX9_may 50 = .ok (.goto (-46), 3) := by decide +kernel
theorem dX9_may_53 : decode cX9_may 53 = .ok (.iload_n 1, 1) := by decide +kernel
theorem dX9_may_54 : decode cX9_may 54 = .ok (.ireturn, 1) := by decide +kernel
theorem dX9_months_0 : decode cX9_months 0 = .ok (.aload_n 0, 1) := by decide +kernel
theorem dX9_months_1 : decode cX9_months 1 = .ok (.iload_n 1, 1) := by decide +kernel
theorem dX9_months_2 : decode cX9_months 2 = .ok (.invokevirtual 147, 3) := by decide +kernel
theorem dX9_months_5 : decode cX9_months 5 = .ok (.astore_n 2, 1) := by decide +kernel
theorem dX9_months_6 : decode cX9_months 6 = .ok (.aload_n 2, 1) := by decide +kernel
theorem dX9_months_7 : decode cX9_months 7 = .ok (.ifnonnull 6, 3) := by decide +kernel
theorem dX9_months_10 : decode cX9_months 10 = .ok (.ldc 136, 2) := by decide +kernel
theorem dX9_months_12 : decode cX9_months 12 = .ok (.ireturn, 1) := by decide +kernel
theorem dX9_months_13 : decode cX9_months 13 = .ok (.aload_n 0, 1) := by decide +kernel
theorem dX9_months_14 : decode cX9_months 14 = .ok (.aload_n 2, 1) := by decide +kernel
theorem dX9_months_15 : decode cX9_months 15 = .ok (.invokevirtual 200, 3) := by decide +kernel
theorem dX9_months_18 : decode cX9_months 18 = .ok (.iconst 0, 1) := by decide +kernel
theorem dX9_months_19 : decode cX9_months 19 = .ok (.istore_n 3, 1) := by decide +kernel
theorem dX9_months_20 : decode cX9_months 20 = .ok (.iconst 0, 1) := by decide +kernel
theorem dX9_months_21 : decode cX9_months 21 = .ok (.istore 4, 2) := by decide +kernel
theorem dX9_months_23 : decode cX9_months 23 = .ok (.iload 4, 2) := by decide +kernel
theorem dX9_months_25 : decode cX9_months 25 = .ok (.bipush 12, 2) := by decide +kernel
theorem dX9_months_27 : decode cX9_months 27 = .ok (.if_icmp .ge 53, 3) := by decide +kernel
theorem dX9_months_30 : decode cX9_months 30 = .ok (.aload_n 0, 1) := by decide +kernel
theorem dX9_months_31 : decode cX9_months 31 = .ok (.getfield 72, 3) := by decide +kernel
theorem dX9_months_34 : decode cX9_months 34 = .ok (.aload_n 0, 1) := by decide +kernel
theorem dX9_months_35 : decode cX9_months 35 = .ok (.getfield 28, 3) := by decide +kernel
theorem dX9_months_38 : decode cX9_months 38 = .ok (.iload 4, 2) := by decide +kernel
theorem dX9_months_40 : decode cX9_months 40 = .ok (.invokevirtual 265, 3) := by decide +kernel
theorem dX9_months_43 : decode cX9_months 43 = .ok (.putfield 268, 3) := by decide +kernel
theorem dX9_months_46 : decode cX9_months 46 = .ok (.aload_n 0, 1) := by decide +kernel
theorem dX9_months_47 : decode cX9_months 47 = .ok (.getfield 72, 3) := by decide +kernel
theorem dX9_months_50 : decode cX9_months 50 = .ok (.invokevirtual 270, 3) := by decide +kernel
theorem dX9_months_53 : decode cX9_months 53 = .ok (.iload_n 3, 1) := by decide +kernel
theorem dX9_months_54 : decode cX9_months 54 = .ok (.aload_n 0, 1) := by decide +kernel
theorem dX9_months_55 : decode cX9_months 55 = .ok (.getfield 72, 3) := by decide +kernel
theorem dX9_months_58 : decode cX9_months 58 = .ok (.invokevirtual 261, 3) := by decide +kernel
theorem dX9_months_61 : decode cX9_months 61 = .ok (.ifCond .eq 10, 3) := by decide +kernel
theorem dX9_months_64 : decode cX9_months 64 = .ok (.iconst 1, 1) := by decide +kernel
theorem dX9_months_65 : decode cX9_months 65 = .ok (.iload 4, 2) := by decide +kernel
theorem dX9_months_67 : decode cX9_months 67 = .ok (.ishl, 1) := by decide +kernel
theorem dX9_months_68 : decode cX9_months 68 = .ok (.goto 4, 3) := by decide +kernel
theorem dX9_months_71 : decode cX9_months 71 = .ok (.iconst 0, 1) := by decide +kernel
theorem dX9_months_72 : decode cX9_months 72 = .ok (.ior, 1) := by decide +kernel
theorem dX9_months_73 : decode cX9_months 73 = .ok (.istore_n 3, 1) := by decide +kernel
theorem dX9_months_74 : decode cX9_months 74 = .ok (.iinc 4 1, 3) := by decide +kernel
theorem dX9_months_77 : decode cX9_months 77 = .ok (.goto (-54), 3) := by decide +kernel
theorem dX9_months_80 : decode cX9_months 80 = .ok (.iload_n 3, 1) := by decide +kernel
theorem dX9_months_81 : decode cX9_months 81 = .ok (.ireturn, 1) := by decide +kernel
theorem dX9_rope_0 : decode cX9_rope 0 = .ok (.aload_n 0, 1) := by decide +kernel
theorem dX9_rope_1 : decode cX9_rope 1 = .ok (.iload_n 1, 1) := by decide +kernel
theorem dX9_rope_2 : decode cX9_rope 2 = .ok (.invokevirtual 147, 3) := by decide +kernel
theorem dX9_rope_5 : decode cX9_rope 5 = .ok (.astore_n 3, 1) := by decide +kernel
theorem dX9_rope_6 : decode cX9_rope 6 = .ok (.aload_n 3, 1) := by decide +kernel
theorem dX9_rope_7 : decode cX9_rope 7 = .ok (.ifnonnull 6, 3) := by decide +kernel
theorem dX9_rope_10 : decode cX9_rope 10 = .ok (.ldc 136, 2) := by decide +kernel
theorem dX9_rope_12 : decode cX9_rope 12 = .ok (.ireturn, 1) := by decide +kernel
theorem dX9_rope_13 : decode cX9_rope 13 = .ok (.iload_n 2, 1) := by decide +kernel
theorem dX9_rope_14 : decode cX9_rope 14 = .ok (.ifCond .lt 8, 3) := by decide +kernel
theorem dX9_rope_17 : decode cX9_rope 17 = .ok (.iload_n 2, 1) := by decide +kernel
theorem dX9_rope_18 : decode cX9_rope 18 = .ok (.iconst 2, 1) := by decide +kernel
theorem dX9_rope_19 : decode cX9_rope 19 = .ok (.if_icmp .le 6, 3) := by decide +kernel
theorem dX9_rope_22 : decode cX9_rope 22 = .ok (.ldc 95, 2) := by decide +kernel
theorem dX9_rope_24 : decode cX9_rope 24 = .ok (.ireturn, 1) := by decide +kernel
theorem dX9_rope_25 : decode cX9_rope 25 = .ok (.aload_n 0, 1) := by decide +kernel
theorem dX9_rope_26 : decode cX9_rope 26 = .ok (.aload_n 3, 1) := by decide +kernel
theorem dX9_rope_27 : decode cX9_rope 27 = .ok (.invokevirtual 200, 3) := by decide +kernel
theorem dX9_rope_30 : decode cX9_rope 30 = .ok (.iconst 0, 1) := by decide +kernel
theorem dX9_rope_31 : decode cX9_rope 31 = .ok (.istore 4, 2) := by decide +kernel
theorem dX9_rope_33 : decode cX9_rope 33 = .ok (.iconst 0, 1) := by decide +kernel
theorem dX9_rope_34 : decode cX9_rope 34 = .ok (.istore 5, 2) := by decide +kernel
theorem dX9_rope_36 : decode cX9_rope 36 = .ok (.iconst (-1), 1) := by decide +kernel
theorem dX9_rope_37 : decode cX9_rope 37 = .ok (.istore 6, 2) := by decide +kernel
theorem dX9_rope_39 : decode cX9_rope 39 = .ok (.bipush 100, 2) := by decide +kernel
theorem dX9_rope_41 : decode cX9_rope 41 = .ok (.istore 7, 2) := by decide +kernel
theorem dX9_rope_43 : decode cX9_rope 43 = .ok (.iload 7, 2) := by decide +kernel
theorem dX9_rope_45 : decode cX9_rope 45 = .ok (.sipush 900, 3) := by decide +kernel
theorem dX9_rope_48 : decode cX9_rope 48 = .ok (.if_icmp .gt 119, 3) := by decide +kernel
theorem dX9_rope_51 : decode cX9_rope 51 = .ok (.iconst 0, 1) := by decide +kernel
theorem dX9_rope_52 : decode cX9_rope 52 = .ok (.istore 8, 2) := by decide +kernel
theorem dX9_rope_54 : decode cX9_rope 54 = .ok (.iload 8, 2) := by decide +kernel
theorem dX9_rope_56 : decode cX9_rope 56 = .ok (.iload 7, 2) := by decide +kernel
theorem dX9_rope_58 : decode cX9_rope 58 = .ok (.bipush 100, 2) := by decide +kernel
theorem dX9_rope_60 : decode cX9_rope 60 = .ok (.if_icmp .ne 8, 3) := by decide +kernel
theorem dX9_rope_63 : decode cX9_rope 63 = .ok (.bipush 50, 2) := by decide +kernel
theorem dX9_rope_65 : decode cX9_rope 65 = .ok (.goto 4, 3) := by decide +kernel
theorem dX9_rope_68 : decode cX9_rope 68 = .ok (.iconst 0, 1) := by decide +kernel
theorem dX9_rope_69 : decode cX9_rope 69 = .ok (.if_icmp .gt 92, 3) := by decide +kernel
theorem dX9_rope_72 : decode cX9_rope 72 = .ok (.aload_n 0, 1) := by decide +kernel
theorem dX9_rope_73 : decode cX9_rope 73 = .ok (.getfield 63, 3) := by decide +kernel
theorem dX9_rope_76 : decode cX9_rope 76 = .ok (.aload_n 0, 1) := by decide +kernel
theorem dX9_rope_77 : decode cX9_rope 77 = .ok (.getfield 28, 3) := by decide +kernel
theorem dX9_rope_80 : decode cX9_rope 80 = .ok (.iconst 0, 1) := by decide +kernel
theorem dX9_rope_81 : decode cX9_rope 81 = .ok (.invokevirtual 132, 3) := by decide +kernel
theorem dX9_rope_84 : decode cX9_rope 84 = .ok (.iload 7, 2) := by decide +kernel
theorem dX9_rope_86 : decode cX9_rope 86 = .ok (.iload 8, 2) := by decide +kernel
theorem dX9_rope_88 : decode cX9_rope 88 = .ok (.isub, 1) := by decide +kernel
theorem dX9_rope_89 : decode cX9_rope 89 = .ok (.aload_n 0, 1) := by decide +kernel
theorem dX9_rope_90 : decode cX9_rope 90 = .ok (.getfield 45, 3) := by decide +kernel
theorem dX9_rope_93 : decode cX9_rope 93 = .ok (.iconst 3, 1) := by decide +kernel
theorem dX9_rope_94 : decode cX9_rope 94 = .ok (.invokevirtual 162, 3) := by decide +kernel
theorem dX9_rope_97 : decode cX9_rope 97 = .ok (.aload_n 0, 1) := by decide +kernel
theorem dX9_rope_98 : decode cX9_rope 98 = .ok (.getfield 45, 3) := by decide +kernel
theorem dX9_rope_101 : decode cX9_rope 101 = .ok (.iconst 4, 1) := by decide +kernel
theorem dX9_rope_102 : decode cX9_rope 102 = .ok (.invokevirtual 162, 3) := by decide +kernel
theorem dX9_rope_105 : decode cX9_rope 105 = .ok (.invokevirtual 273, 3) := by decide +kernel
theorem dX9_rope_108 : decode cX9_rope 108 = .ok (.aload_n 0, 1) := by decide +kernel
theorem dX9_rope_109 : decode cX9_rope 109 = .ok (.getfield 72, 3) := by decide +kernel
theorem dX9_rope_112 : decode cX9_rope 112 = .ok (.invokevirtual 270, 3) := by decide +kernel
theorem dX9_rope_115 : decode cX9_rope 115 = .ok (.aload_n 0, 1) := by decide +kernel
theorem dX9_rope_116 : decode cX9_rope 116 = .ok (.getfield 79, 3) := by decide +kernel
theorem dX9_rope_119 : decode cX9_rope 119 = .ok (.aload_n 0, 1) := by decide +kernel
theorem dX9_rope_120 : decode cX9_rope 120 = .ok (.getfield 72, 3) := by decide +kernel
theorem dX9_rope_123 : decode cX9_rope 123 = .ok (.invokevirtual 228, 3) := by decide +kernel
theorem dX9_rope_126 : decode cX9_rope 126 = .ok (.aload_n 0, 1) := by decide +kernel
theorem dX9_rope_127 : decode cX9_rope 127 = .ok (.getfield 79, 3) := by decide +kernel
theorem dX9_rope_130 : decode cX9_rope 130 = .ok (.getfield 235, 3) := by decide +kernel
theorem dX9_rope_133 : decode cX9_rope 133 = .ok (.iload 6, 2) := by decide +kernel
theorem dX9_rope_135 : decode cX9_rope 135 = .ok (.if_icmp .le 20, 3) := by decide +kernel
theorem dX9_rope_138 : decode cX9_rope 138 = .ok (.aload_n 0, 1) := by decide +kernel
theorem dX9_rope_139 : decode cX9_rope 139 = .ok (.getfield 79, 3) := by decide +kernel
theorem dX9_rope_142 : decode cX9_rope 142 = .ok (.getfield 235, 3) := by decide +kernel
theorem dX9_rope_145 : decode cX9_rope 145 = .ok (.istore 6, 2) := by decide +kernel
theorem dX9_rope_147 : decode cX9_rope 147 = .ok (.iload 7, 2) := by decide +kernel
theorem dX9_rope_149 : decode cX9_rope 149 = .ok (.istore 4, 2) := by decide +kernel
theorem dX9_rope_151 : decode cX9_rope 151 = .ok (.iload 8, 2) := by decide +kernel
theorem dX9_rope_153 : decode cX9_rope 153 = .ok (.istore 5, 2) := by decide +kernel
theorem dX9_rope_155 : decode cX9_rope 155 = .ok (.iinc 8 50, 3) := by decide +kernel
theorem dX9_rope_158 : decode cX9_rope 158 = .ok (.goto (-104), 3) := by decide +kernel
theorem dX9_rope_161 : decode cX9_rope 161 = .ok (.iinc 7 50, 3) := by decide +kernel
theorem dX9_rope_164 : decode cX9_rope 164 = .ok (.goto (-121), 3) := by decide +kernel
theorem dX9_rope_167 : decode cX9_rope 167 = .ok (.iload_n 2, 1) := by decide +kernel
theorem dX9_rope_168 : decode cX9_rope 168 = .ok (.ifCond .ne 6, 3) := by decide +kernel
theorem dX9_rope_171 : decode cX9_rope 171 = .ok (.iload 4, 2) := by decide +kernel
theorem dX9_rope_173 : decode cX9_rope 173 = .ok (.ireturn, 1) := by decide +kernel
theorem dX9_rope_174 : decode cX9_rope 174 = .ok (.iload_n 2, 1) := by decide +kernel
theorem dX9_rope_175 : decode cX9_rope 175 = .ok (.iconst 1, 1) := by decide +kernel
theorem dX9_rope_176 : decode cX9_rope 176 = .ok (.if_icmp .ne 8, 3) := by decide +kernel
theorem dX9_rope_179 : decode cX9_rope 179 = .ok (.iload 5, 2) := by decide +kernel
theorem dX9_rope_181 : decode cX9_rope 181 = .ok (.goto 5, 3) := by decide +kernel
theorem dX9_rope_184 : decode cX9_rope 184 = .ok (.iload 6, 2) := by decide +kernel
theorem dX9_rope_186 : decode cX9_rope 186 = .ok (.ireturn, 1) := by decide +kernel
theorem dX9_turn_0 : decode cX9_turn 0 = .ok (.aload_n 0, 1) := by decide +kernel
theorem dX9_turn_1 : decode cX9_turn 1 = .ok (.iload_n 1, 1) := by decide +kernel
theorem dX9_turn_2 : decode cX9_turn 2 = .ok (.invokevirtual 147, 3) := by decide +kernel
theorem dX9_turn_5 : decode cX9_turn 5 = .ok (.astore_n 3, 1) := by decide +kernel
theorem dX9_turn_6 : decode cX9_turn 6 = .ok (.aload_n 3, 1) := by decide +kernel
theorem dX9_turn_7 : decode cX9_turn 7 = .ok (.ifnonnull 6, 3) := by decide +kernel
theorem dX9_turn_10 : decode cX9_turn 10 = .ok (.ldc 136, 2) := by decide +kernel
theorem dX9_turn_12 : decode cX9_turn 12 = .ok (.ireturn, 1) := by decide +kernel
theorem dX9_turn_13 : decode cX9_turn 13 = .ok (.iload_n 2, 1) := by decide +kernel
theorem dX9_turn_14 : decode cX9_turn 14 = .ok (.iconst 1, 1) := by decide +kernel
theorem dX9_turn_15 : decode cX9_turn 15 = .ok (.sipush 200, 3) := by decide +kernel
theorem dX9_turn_18 : decode cX9_turn 18 = .ok (.invokestatic 151, 3) := by decide +kernel
theorem dX9_turn_21 : decode cX9_turn 21 = .ok (.ifCond .ne 6, 3) := by decide +kernel
theorem dX9_turn_24 : decode cX9_turn 24 = .ok (.ldc 95, 2) := by decide +kernel
theorem dX9_turn_26 : decode cX9_turn 26 = .ok (.ireturn, 1) := by decide +kernel
theorem dX9_turn_27 : decode cX9_turn 27 = .ok (.aload_n 0, 1) := by decide +kernel
theorem dX9_turn_28 : decode cX9_turn 28 = .ok (.aload_n 3, 1) := by decide +kernel
theorem dX9_turn_29 : decode cX9_turn 29 = .ok (.invokevirtual 200, 3) := by decide +kernel
theorem dX9_turn_32 : decode cX9_turn 32 = .ok (.iconst 4, 1) := by decide +kernel
theorem dX9_turn_33 : decode cX9_turn 33 = .ok (.invokestatic 252, 3) := by decide +kernel
theorem dX9_turn_36 : decode cX9_turn 36 = .ok (.istore 4, 2) := by decide +kernel
theorem dX9_turn_38 : decode cX9_turn 38 = .ok (.iload 4, 2) := by decide +kernel
theorem dX9_turn_40 : decode cX9_turn 40 = .ok (.iconst 4, 1) := by decide +kernel
theorem dX9_turn_41 : decode cX9_turn 41 = .ok (.invokestatic 255, 3) := by decide +kernel
theorem dX9_turn_44 : decode cX9_turn 44 = .ok (.if_icmp .gt 48, 3) := by decide +kernel
theorem dX9_turn_47 : decode cX9_turn 47 = .ok (.aload_n 0, 1) := by decide +kernel
theorem dX9_turn_48 : decode cX9_turn 48 = .ok (.getfield 72, 3) := by decide +kernel
theorem dX9_turn_51 : decode cX9_turn 51 = .ok (.iload 4, 2) := by decide +kernel
theorem dX9_turn_53 : decode cX9_turn 53 = .ok (.putfield 277, 3) := by decide +kernel
theorem dX9_turn_56 : decode cX9_turn 56 = .ok (.aload_n 0, 1) := by decide +kernel
theorem dX9_turn_57 : decode cX9_turn 57 = .ok (.getfield 72, 3) := by decide +kernel
theorem dX9_turn_60 : decode cX9_turn 60 = .ok (.iload_n 2, 1) := by decide +kernel
theorem dX9_turn_61 : decode cX9_turn 61 = .ok (.aload_n 0, 1) := by decide +kernel
theorem dX9_turn_62 : decode cX9_turn 62 = .ok (.getfield 72, 3) := by decide +kernel
theorem dX9_turn_65 : decode cX9_turn 65 = .ok (.getfield 204, 3) := by decide +kernel
theorem dX9_turn_68 : decode cX9_turn 68 = .ok (.iadd, 1) := by decide +kernel
theorem dX9_turn_69 : decode cX9_turn 69 = .ok (.invokevirtual 207, 3) := by decide +kernel
theorem dX9_turn_72 : decode cX9_turn 72 = .ok (.aload_n 0, 1) := by decide +kernel
theorem dX9_turn_73 : decode cX9_turn 73 = .ok (.getfield 72, 3) := by decide +kernel
theorem dX9_turn_76 : decode cX9_turn 76 = .ok (.getfield 210, 3) := by decide +kernel
theorem dX9_turn_79 : decode cX9_turn 79 = .ok (.iconst 2, 1) := by decide +kernel
theorem dX9_turn_80 : decode cX9_turn 80 = .ok (.if_icmp .ne 6, 3) := by decide +kernel
theorem dX9_turn_83 : decode cX9_turn 83 = .ok (.iload 4, 2) := by decide +kernel
theorem dX9_turn_85 : decode cX9_turn 85 = .ok (.ireturn, 1) := by decide +kernel
theorem dX9_turn_86 : decode cX9_turn 86 = .ok (.iinc 4 1, 3) := by decide +kernel
theorem dX9_turn_89 : decode cX9_turn 89 = .ok (.goto (-51), 3) := by decide +kernel
theorem dX9_turn_92 : decode cX9_turn 92 = .ok (.iconst (-1), 1) := by decide +kernel
theorem dX9_turn_93 : decode cX9_turn 93 = .ok (.ireturn, 1) := by decide +kernel
theorem dX9_film_0 : decode cX9_film 0 = .ok (.iload_n 1, 1) := by decide +kernel
theorem dX9_film_1 : decode cX9_film 1 = .ok (.iconst 1, 1) := by decide +kernel
theorem dX9_film_2 : decode cX9_film 2 = .ok (.sipush 200, 3) := by decide +kernel
theorem dX9_film_5 : decode cX9_film 5 = .ok (.invokestatic 151, 3) := by decide +kernel
theorem dX9_film_8 : decode cX9_film 8 = .ok (.ifCond .eq 16, 3) := by decide +kernel
theorem dX9_film_11 : decode cX9_film 11 = .ok (.iload_n 2, 1) := by decide +kernel
theorem dX9_film_12 : decode cX9_film 12 = .ok (.sipush (-180), 3) := by decide +kernel
theorem dX9_film_15 : decode cX9_film 15 = .ok (.sipush 180, 3) := by decide +kernel
theorem dX9_film_18 : decode cX9_film 18 = .ok (.invokestatic 151, 3) := by decide +kernel
theorem dX9_film_21 : decode cX9_film 21 = .ok (.ifCond .ne 6, 3) := by decide +kernel
theorem dX9_film_24 : decode cX9_film 24 = .ok (.ldc 95, 2) := by decide +kernel
theorem dX9_film_26 : decode cX9_film 26 = .ok (.ireturn, 1) := by decide +kernel
theorem dX9_film_27 : decode cX9_film 27 = .ok (.iconst 0, 1) := by decide +kernel
theorem dX9_film_28 : decode cX9_film 28 = .ok (.istore_n 3, 1) := by decide +kernel
theorem dX9_film_29 : decode cX9_film 29 = .ok (.ldc_w 280, 3) := by decide +kernel
theorem dX9_film_32 : decode cX9_film 32 = .ok (.istore 4, 2) := by decide +kernel
theorem dX9_film_34 : decode cX9_film 34 = .ok (.iconst 0, 1) := by decide +kernel
theorem dX9_film_35 : decode cX9_film 35 = .ok (.istore 5, 2) := by decide +kernel
theorem dX9_film_37 : decode cX9_film 37 = .ok (.iload 5, 2) := by decide +kernel
theorem dX9_film_39 : decode cX9_film 39 = .ok (.sipush 600, 3) := by decide +kernel
theorem dX9_film_42 : decode cX9_film 42 = .ok (.if_icmp .gt 84, 3) := by decide +kernel
theorem dX9_film_45 : decode cX9_film 45 = .ok (.aload_n 0, 1) := by decide +kernel
theorem dX9_film_46 : decode cX9_film 46 = .ok (.getfield 56, 3) := by decide +kernel
theorem dX9_film_49 : decode cX9_film 49 = .ok (.aload_n 0, 1) := by decide +kernel
theorem dX9_film_50 : decode cX9_film 50 = .ok (.invokevirtual 169, 3) := by decide +kernel
theorem dX9_film_53 : decode cX9_film 53 = .ok (.aload_n 0, 1) := by decide +kernel
theorem dX9_film_54 : decode cX9_film 54 = .ok (.getfield 45, 3) := by decide +kernel
theorem dX9_film_57 : decode cX9_film 57 = .ok (.iconst 3, 1) := by decide +kernel
theorem dX9_film_58 : decode cX9_film 58 = .ok (.invokevirtual 162, 3) := by decide +kernel
theorem dX9_film_61 : decode cX9_film 61 = .ok (.iload 5, 2) := by decide +kernel
theorem dX9_film_63 : decode cX9_film 63 = .ok (.invokevirtual 281, 3) := by decide +kernel
theorem dX9_film_66 : decode cX9_film 66 = .ok (.iconst 1, 1) := by decide +kernel
theorem dX9_film_67 : decode cX9_film 67 = .ok (.istore 6, 2) := by decide +kernel
theorem dX9_film_69 : decode cX9_film 69 = .ok (.iload 6, 2) := by decide +kernel
theorem dX9_film_71 : decode cX9_film 71 = .ok (.iload_n 1, 1) := by decide +kernel
theorem dX9_film_72 : decode cX9_film 72 = .ok (.if_icmp .gt 16, 3) := by decide +kernel
theorem dX9_film_75 : decode cX9_film 75 = .ok (.aload_n 0, 1) := by decide +kernel
theorem dX9_film_76 : decode cX9_film 76 = .ok (.getfield 56, 3) := by decide +kernel
theorem dX9_film_79 : decode cX9_film 79 = .ok (.invokevirtual 284, 3) := by decide +kernel
theorem dX9_film_82 : decode cX9_film 82 = .ok (.iinc 6 1, 3) := by decide +kernel
theorem dX9_film_85 : decode cX9_film 85 = .ok (.goto (-16), 3) := by decide +kernel
theorem dX9_film_88 : decode cX9_film 88 = .ok (.aload_n 0, 1) := by decide +kernel
theorem dX9_film_89 : decode cX9_film 89 = .ok (.getfield 56, 3) := by decide +kernel
theorem dX9_film_92 : decode cX9_film 92 = .ok (.getfield 287, 3) := by decide +kernel
theorem dX9_film_95 : decode cX9_film 95 = .ok (.sipush 1000, 3) := by decide +kernel
theorem dX9_film_98 : decode cX9_film 98 = .ok (.idiv, 1) := by decide +kernel
theorem dX9_film_99 : decode cX9_film 99 = .ok (.iload_n 2, 1) := by decide +kernel
theorem dX9_film_100 : decode cX9_film 100 = .ok (.isub, 1) := by decide +kernel
theorem dX9_film_101 : decode cX9_film 101 = .ok (.invokestatic 289, 3) := by decide +kernel
theorem dX9_film_104 : decode cX9_film 104 = .ok (.istore 6, 2) := by decide +kernel
theorem dX9_film_106 : decode cX9_film 106 = .ok (.iload 6, 2) := by decide +kernel
theorem dX9_film_108 : decode cX9_film 108 = .ok (.iload 4, 2) := by decide +kernel
theorem dX9_film_110 : decode cX9_film 110 = .ok (.if_icmp .ge 10, 3) := by decide +kernel
theorem dX9_film_113 : decode cX9_film 113 = .ok (.iload 6, 2) := by decide +kernel
theorem dX9_film_115 : decode cX9_film 115 = .ok (.istore 4, 2) := by decide +kernel
theorem dX9_film_117 : decode cX9_film 117 = .ok (.iload 5, 2) := by decide +kernel
theorem dX9_film_119 : decode cX9_film 119 = .ok (.istore_n 3, 1) := by decide +kernel
theorem dX9_film_120 : decode cX9_film 120 = .ok (.iinc 5 1, 3) := by decide +kernel
theorem dX9_film_123 : decode cX9_film 123 = .ok (.goto (-86), 3) := by decide +kernel
theorem dX9_film_126 : decode cX9_film 126 = .ok (.iload_n 3, 1) := by decide +kernel
theorem dX9_film_127 : decode cX9_film 127 = .ok (.ireturn, 1) := by decide +kernel
theorem dX9_age_0 : decode cX9_age 0 = .ok (.aload_n 0, 1) := by decide +kernel
theorem dX9_age_1 : decode cX9_age 1 = .ok (.iload_n 1, 1) := by decide +kernel
theorem dX9_age_2 : decode cX9_age 2 = .ok (.invokevirtual 147, 3) := by decide +kernel
theorem dX9_age_5 : decode cX9_age 5 = .ok (.astore_n 2, 1) := by decide +kernel
theorem dX9_age_6 : decode cX9_age 6 = .ok (.aload_n 2, 1) := by decide +kernel
theorem dX9_age_7 : decode cX9_age 7 = .ok (.ifnonnull 6, 3) := by decide +kernel
theorem dX9_age_10 : decode cX9_age 10 = .ok (.ldc 136, 2) := by decide +kernel
theorem dX9_age_12 : decode cX9_age 12 = .ok (.ireturn, 1) := by decide +kernel
theorem dX9_age_13 : decode cX9_age 13 = .ok (.aload_n 0, 1) := by decide +kernel
theorem dX9_age_14 : decode cX9_age 14 = .ok (.aload_n 2, 1) := by decide +kernel
theorem dX9_age_15 : decode cX9_age 15 = .ok (.invokevirtual 200, 3) := by decide +kernel
theorem dX9_age_18 : decode cX9_age 18 = .ok (.iconst 0, 1) := by decide +kernel
theorem dX9_age_19 : decode cX9_age 19 = .ok (.istore_n 3, 1) := by decide +kernel
theorem dX9_age_20 : decode cX9_age 20 = .ok (.iload_n 3, 1) := by decide +kernel
theorem dX9_age_21 : decode cX9_age 21 = .ok (.bipush 40, 2) := by decide +kernel
theorem dX9_age_23 : decode cX9_age 23 = .ok (.if_icmp .gt 40, 3) := by decide +kernel
theorem dX9_age_26 : decode cX9_age 26 = .ok (.aload_n 0, 1) := by decide +kernel
theorem dX9_age_27 : decode cX9_age 27 = .ok (.getfield 72, 3) := by decide +kernel
theorem dX9_age_30 : decode cX9_age 30 = .ok (.aload_n 0, 1) := by decide +kernel
theorem dX9_age_31 : decode cX9_age 31 = .ok (.iload_n 3, 1) := by decide +kernel
theorem dX9_age_32 : decode cX9_age 32 = .ok (.invokevirtual 172, 3) := by decide +kernel
theorem dX9_age_35 : decode cX9_age 35 = .ok (.putfield 294, 3) := by decide +kernel
theorem dX9_age_38 : decode cX9_age 38 = .ok (.aload_n 0, 1) := by decide +kernel
theorem dX9_age_39 : decode cX9_age 39 = .ok (.getfield 72, 3) := by decide +kernel
theorem dX9_age_42 : decode cX9_age 42 = .ok (.invokevirtual 270, 3) := by decide +kernel
theorem dX9_age_45 : decode cX9_age 45 = .ok (.aload_n 0, 1) := by decide +kernel
theorem dX9_age_46 : decode cX9_age 46 = .ok (.getfield 72, 3) := by decide +kernel
theorem dX9_age_49 : decode cX9_age 49 = .ok (.invokevirtual 261, 3) := by decide +kernel
theorem dX9_age_52 : decode cX9_age 52 = .ok (.ifCond .ne 5, 3) := by decide +kernel
theorem dX9_age_55 : decode cX9_age 55 = .ok (.iload_n 3, 1) := by decide +kernel
theorem dX9_age_56 : decode cX9_age 56 = .ok (.ireturn, 1) := by decide +kernel
theorem dX9_age_57 : decode cX9_age 57 = .ok (.iinc 3 1, 3) := by decide +kernel
theorem dX9_age_60 : decode cX9_age 60 = .ok (.goto (-40), 3) := by decide +kernel
theorem dX9_age_63 : decode cX9_age 63 = .ok (.iconst (-1), 1) := by decide +kernel
theorem dX9_age_64 : decode cX9_age 64 = .ok (.ireturn, 1) := by decide +kernel
theorem dX9_harmed_0 : decode cX9_harmed 0 = .ok (.iload_n 1, 1) := by decide +kernel
theorem dX9_harmed_1 : decode cX9_harmed 1 = .ok (.iconst 0, 1) := by decide +kernel
theorem dX9_harmed_2 : decode cX9_harmed 2 = .ok (.bipush 63, 2) := by decide +kernel
theorem dX9_harmed_4 : decode cX9_harmed 4 = .ok (.invokestatic 151, 3) := by decide +kernel
theorem dX9_harmed_7 : decode cX9_harmed 7 = .ok (.ifCond .ne 6, 3) := by decide +kernel
theorem dX9_harmed_10 : decode cX9_harmed 10 = .ok (.ldc 95, 2) := by decide +kernel
theorem dX9_harmed_12 : decode cX9_harmed 12 = .ok (.ireturn, 1) := by decide +kernel
theorem dX9_harmed_13 : decode cX9_harmed 13 = .ok (.aload_n 0, 1) := by decide +kernel
theorem dX9_harmed_14 : decode cX9_harmed 14 = .ok (.invokevirtual 297, 3) := by decide +kernel
theorem dX9_harmed_17 : decode cX9_harmed 17 = .ok (.aload_n 0, 1) := by decide +kernel
theorem dX9_harmed_18 : decode cX9_harmed 18 = .ok (.iload_n 1, 1) := by decide +kernel
theorem dX9_harmed_19 : decode cX9_harmed 19 = .ok (.invokevirtual 300, 3) := by decide +kernel
theorem dX9_harmed_22 : decode cX9_harmed 22 = .ok (.ireturn, 1) := by decide +kernel
theorem dX9_enough_0 : decode cX9_enough 0 = .ok (.aload_n 0, 1) := by decide +kernel
theorem dX9_enough_1 : decode cX9_enough 1 = .ok (.invokevirtual 297, 3) := by decide +kernel
theorem dX9_enough_4 : decode cX9_enough 4 = .ok (.ldc_w 280, 3) := by decide +kernel
theorem dX9_enough_7 : decode cX9_enough 7 = .ok (.istore_n 1, 1) := by decide +kernel
theorem dX9_enough_8 : decode cX9_enough 8 = .ok (.iconst (-1), 1) := by decide +kernel
theorem dX9_enough_9 : decode cX9_enough 9 = .ok (.istore_n 2, 1) := by decide +kernel
theorem dX9_enough_10 : decode cX9_enough 10 = .ok (.iconst 0, 1) := by decide +kernel
theorem dX9_enough_11 : decode cX9_enough 11 = .ok (.istore_n 3, 1) := by decide +kernel
theorem dX9_enough_12 : decode cX9_enough 12 = .ok (.iload_n 3, 1) := by decide +kernel
theorem dX9_enough_13 : decode cX9_enough 13 = .ok (.bipush 63, 2) := by decide +kernel
theorem dX9_enough_15 : decode cX9_enough 15 = .ok (.if_icmp .gt 34, 3) := by decide +kernel
theorem dX9_enough_18 : decode cX9_enough 18 = .ok (.iload_n 3, 1) := by decide +kernel
theorem dX9_enough_19 : decode cX9_enough 19 = .ok (.invokestatic 303, 3) := by decide +kernel
theorem dX9_enough_22 : decode cX9_enough 22 = .ok (.istore 4, 2) := by decide +kernel
theorem dX9_enough_24 : decode cX9_enough 24 = .ok (.iload 4, 2) := by decide +kernel
theorem dX9_enough_26 : decode cX9_enough 26 = .ok (.iload_n 1, 1) := by decide +kernel
theorem dX9_enough_27 : decode cX9_enough 27 = .ok (.if_icmp .ge 16, 3) := by decide +kernel
theorem dX9_enough_30 : decode cX9_enough 30 = .ok (.aload_n 0, 1) := by decide +kernel
theorem dX9_enough_31 : decode cX9_enough 31 = .ok (.iload_n 3, 1) := by decide +kernel
theorem dX9_enough_32 : decode cX9_enough 32 = .ok (.invokevirtual 300, 3) := by decide +kernel
theorem dX9_enough_35 : decode cX9_enough 35 = .ok (.ifCond .ne 8, 3) := by decide +kernel
theorem dX9_enough_38 : decode cX9_enough 38 = .ok (.iload 4, 2) := by decide +kernel
theorem dX9_enough_40 : decode cX9_enough 40 = .ok (.istore_n 1, 1) := by decide +kernel
theorem dX9_enough_41 : decode cX9_enough 41 = .ok (.iload_n 3, 1) := by decide +kernel
theorem dX9_enough_42 : decode cX9_enough 42 = .ok (.istore_n 2, 1) := by decide +kernel
theorem dX9_enough_43 : decode cX9_enough 43 = .ok (.iinc 3 1, 3) := by decide +kernel
theorem dX9_enough_46 : decode cX9_enough 46 = .ok (.goto (-34), 3) := by decide +kernel
theorem dX9_enough_49 : decode cX9_enough 49 = .ok (.iload_n 2, 1) := by decide +kernel
theorem dX9_enough_50 : decode cX9_enough 50 = .ok (.ireturn, 1) := by decide +kernel
theorem dX9_seed_0 : decode cX9_seed 0 = .ok (.iload_n 1, 1) := by decide +kernel
theorem dX9_seed_1 : decode cX9_seed 1 = .ok (.ifCond .ge 6, 3) := by decide +kernel
theorem dX9_seed_4 : decode cX9_seed 4 = .ok (.ldc 95, 2) := by decide +kernel
theorem dX9_seed_6 : decode cX9_seed 6 = .ok (.ireturn, 1) := by decide +kernel
theorem dX9_seed_7 : decode cX9_seed 7 = .ok (.aload_n 0, 1) := by decide +kernel
theorem dX9_seed_8 : decode cX9_seed 8 = .ok (.getfield 45, 3) := by decide +kernel
theorem dX9_seed_11 : decode cX9_seed 11 = .ok (.getfield 308, 3) := by decide +kernel
theorem dX9_seed_14 : decode cX9_seed 14 = .ok (.istore_n 2, 1) := by decide +kernel
theorem dX9_seed_15 : decode cX9_seed 15 = .ok (.aload_n 0, 1) := by decide +kernel
theorem dX9_seed_16 : decode cX9_seed 16 = .ok (.getfield 45, 3) := by decide +kernel
theorem dX9_seed_19 : decode cX9_seed 19 = .ok (.iload_n 1, 1) := by decide +kernel
theorem dX9_seed_20 : decode cX9_seed 20 = .ok (.putfield 308, 3) := by decide +kernel
theorem dX9_seed_23 : decode cX9_seed 23 = .ok (.iload_n 2, 1) := by decide +kernel
theorem dX9_seed_24 : decode cX9_seed 24 = .ok (.ireturn, 1) := by decide +kernel
theorem dX9_afternoon_0 : decode cX9_afternoon 0 = .ok (.iload_n 1, 1) := by decide +kernel
theorem dX9_afternoon_1 : decode cX9_afternoon 1 = .ok (.iconst 1, 1) := by decide +kernel
theorem dX9_afternoon_2 : decode cX9_afternoon 2 = .ok (.if_icmp .lt 9, 3) := by decide +kernel
theorem dX9_afternoon_5 : decode cX9_afternoon 5 = .ok (.iload_n 1, 1) := by decide +kernel
theorem dX9_afternoon_6 : decode cX9_afternoon 6 = .ok (.bipush 40, 2) := by decide +kernel
theorem dX9_afternoon_8 : decode cX9_afternoon 8 = .ok (.if_icmp .le 6, 3) := by decide +kernel
theorem dX9_afternoon_11 : decode cX9_afternoon 11 = .ok (.ldc 95, 2) := by decide +kernel
theorem dX9_afternoon_13 : decode cX9_afternoon 13 = .ok (.ireturn, 1) := by decide +kernel
theorem dX9_afternoon_14 : decode cX9_afternoon 14 = .ok (.aload_n 0, 1) := by decide +kernel
theorem dX9_afternoon_15 : decode cX9_afternoon 15 = .ok (.getfield 125, 3) := by decide +kernel
theorem dX9_afternoon_18 : decode cX9_afternoon 18 = .ok (.ifCond .ne 6, 3) := by decide +kernel
theorem dX9_afternoon_21 : decode cX9_afternoon 21 = .ok (.ldc 124, 2) := by decide +kernel
theorem dX9_afternoon_23 : decode cX9_afternoon 23 = .ok (.ireturn, 1) := by decide +kernel
theorem dX9_afternoon_24 : decode cX9_afternoon 24 = .ok (.iconst 0, 1) := by decide +kernel
theorem dX9_afternoon_25 : decode cX9_afternoon 25 = .ok (.istore_n 2, 1) := by decide +kernel
theorem dX9_afternoon_26 : decode cX9_afternoon 26 = .ok (.iconst 0, 1) := by decide +kernel
theorem dX9_afternoon_27 : decode cX9_afternoon 27 = .ok (.istore_n 3, 1) := by decide +kernel
theorem dX9_afternoon_28 : decode cX9_afternoon 28 = .ok (.iload_n 3, 1) := by decide +kernel
theorem dX9_afternoon_29 : decode cX9_afternoon 29 = .ok (.iload_n 1, 1) := by decide +kernel
theorem dX9_afternoon_30 : decode cX9_afternoon 30 = .ok (.if_icmp .ge 102, 3) := by decide +kernel
theorem dX9_afternoon_33 : decode cX9_afternoon 33 = .ok (.aload_n 0, 1) := by decide +kernel
theorem dX9_afternoon_34 : decode cX9_afternoon 34 = .ok (.aload_n 0, 1) := by decide +kernel
theorem dX9_afternoon_35 : decode cX9_afternoon 35 = .ok (.getfield 45, 3) := by decide +kernel
theorem dX9_afternoon_38 : decode cX9_afternoon 38 = .ok (.aload_n 0, 1) := by decide +kernel
theorem dX9_afternoon_39 : decode cX9_afternoon 39 = .ok (.getfield 125, 3) := by decide +kernel
theorem dX9_afternoon_42 : decode cX9_afternoon 42 = .ok (.invokevirtual 311, 3) := by decide +kernel
theorem dX9_afternoon_45 : decode cX9_afternoon 45 = .ok (.invokevirtual 147, 3) := by decide +kernel
theorem dX9_afternoon_48 : decode cX9_afternoon 48 = .ok (.astore 4, 2) := by decide +kernel
theorem dX9_afternoon_50 : decode cX9_afternoon 50 = .ok (.iconst 1, 1) := by decide +kernel
theorem dX9_afternoon_51 : decode cX9_afternoon 51 = .ok (.aload_n 0, 1) := by decide +kernel
theorem dX9_afternoon_52 : decode cX9_afternoon 52 = .ok (.getfield 45, 3) := by decide +kernel
theorem dX9_afternoon_55 : decode cX9_afternoon 55 = .ok (.bipush 60, 2) := by decide +kernel
theorem dX9_afternoon_57 : decode cX9_afternoon 57 = .ok (.invokevirtual 311, 3) := by decide +kernel
theorem dX9_afternoon_60 : decode cX9_afternoon 60 = .ok (.iadd, 1) := by decide +kernel
theorem dX9_afternoon_61 : decode cX9_afternoon 61 = .ok (.istore 5, 2) := by decide +kernel
theorem dX9_afternoon_63 : decode cX9_afternoon 63 = .ok (.aload 4, 2) := by decide +kernel
theorem dX9_afternoon_65 : decode cX9_afternoon 65 = .ok (.ifnull 61, 3) := by decide +kernel
theorem dX9_afternoon_68 : decode cX9_afternoon 68 = .ok (.aload_n 0, 1) := by decide +kernel
theorem dX9_afternoon_69 : decode cX9_afternoon 69 = .ok (.aload 4, 2) := by decide +kernel
theorem dX9_afternoon_71 : decode cX9_afternoon 71 = .ok (.invokevirtual 200, 3) := by decide +kernel
theorem dX9_afternoon_74 : decode cX9_afternoon 74 = .ok (.aload_n 0, 1) := by decide +kernel
theorem dX9_afternoon_75 : decode cX9_afternoon 75 = .ok (.getfield 72, 3) := by decide +kernel
theorem dX9_afternoon_78 : decode cX9_afternoon 78 = .ok (.iload 5, 2) := by decide +kernel
theorem dX9_afternoon_80 : decode cX9_afternoon 80 = .ok (.aload_n 0, 1) := by decide +kernel
theorem dX9_afternoon_81 : decode cX9_afternoon 81 = .ok (.getfield 72, 3) := by decide +kernel
theorem dX9_afternoon_84 : decode cX9_afternoon 84 = .ok (.getfield 204, 3) := by decide +kernel
theorem dX9_afternoon_87 : decode cX9_afternoon 87 = .ok (.iadd, 1) := by decide +kernel
theorem dX9_afternoon_88 : decode cX9_afternoon 88 = .ok (.invokevirtual 207, 3) := by decide +kernel
theorem dX9_afternoon_91 : decode cX9_afternoon 91 = .ok (.aload_n 0, 1) := by decide +kernel
theorem dX9_afternoon_92 : decode cX9_afternoon 92 = .ok (.getfield 45, 3) := by decide +kernel
theorem dX9_afternoon_95 : decode cX9_afternoon 95 = .ok (.aload_n 0, 1) := by decide +kernel
theorem dX9_afternoon_96 : decode cX9_afternoon 96 = .ok (.getfield 72, 3) := by decide +kernel
theorem dX9_afternoon_99 : decode cX9_afternoon 99 = .ok (.getfield 210, 3) := by decide +kernel
theorem dX9_afternoon_102 : decode cX9_afternoon 102 = .ok (.invokevirtual 314, 3) := by decide +kernel
theorem dX9_afternoon_105 : decode cX9_afternoon 105 = .ok (.iload_n 2, 1) := by decide +kernel
theorem dX9_afternoon_106 : decode cX9_afternoon 106 = .ok (.aload_n 0, 1) := by decide +kernel
theorem dX9_afternoon_107 : decode cX9_afternoon 107 = .ok (.getfield 72, 3) := by decide +kernel
theorem dX9_afternoon_110 : decode cX9_afternoon 110 = .ok (.getfield 210, 3) := by decide +kernel
theorem dX9_afternoon_113 : decode cX9_afternoon 113 = .ok (.invokestatic 317, 3) := by decide +kernel
theorem dX9_afternoon_116 : decode cX9_afternoon 116 = .ok (.ifCond .eq 7, 3) := by decide +kernel
theorem dX9_afternoon_119 : decode cX9_afternoon 119 = .ok (.iconst 1, 1) := by decide +kernel
theorem dX9_afternoon_120 : decode cX9_afternoon 120 = .ok (.goto 4, 3) := by decide +kernel
theorem dX9_afternoon_123 : decode cX9_afternoon 123 = .ok (.iconst 0, 1) := by decide +kernel
theorem dX9_afternoon_124 : decode cX9_afternoon 124 = .ok (.iadd, 1) := by decide +kernel
theorem dX9_afternoon_125 : decode cX9_afternoon 125 = .ok (.istore_n 2, 1) := by decide +kernel
theorem dX9_afternoon_126 : decode cX9_afternoon 126 = .ok (.iinc 3 1, 3) := by decide +kernel
theorem dX9_afternoon_129 : decode cX9_afternoon 129 = .ok (.goto (-101), 3) := by decide +kernel
theorem dX9_afternoon_132 : decode cX9_afternoon 132 = .ok (.iload_n 2, 1) := by decide +kernel
theorem dX9_afternoon_133 : decode cX9_afternoon 133 = .ok (.ireturn, 1) := by decide +kernel
theorem dX9_ends_0 : decode cX9_ends 0 = .ok (.iload_n 1, 1) := by decide +kernel
theorem dX9_ends_1 : decode cX9_ends 1 = .ok (.iconst 0, 1) := by decide +kernel
theorem dX9_ends_2 : decode cX9_ends 2 = .ok (.bipush 8, 2) := by decide +kernel
theorem dX9_ends_4 : decode cX9_ends 4 = .ok (.invokestatic 151, 3) := by decide +kernel
theorem dX9_ends_7 : decode cX9_ends 7 = .ok (.ifCond .eq 14, 3) := by decide +kernel
theorem dX9_ends_10 : decode cX9_ends 10 = .ok (.aload_n 0, 1) := by decide +kernel
theorem dX9_ends_11 : decode cX9_ends 11 = .ok (.getfield 45, 3) := by decide +kernel
theorem dX9_ends_14 : decode cX9_ends 14 = .ok (.iload_n 1, 1) := by decide +kernel
theorem dX9_ends_15 : decode cX9_ends 15 = .ok (.invokevirtual 320, 3) := by decide +kernel
theorem dX9_ends_18 : decode cX9_ends 18 = .ok (.goto 5, 3) := by decide +kernel
theorem dX9_ends_21 : decode cX9_ends 21 = .ok (.ldc 95, 2) := by decide +kernel
theorem dX9_ends_23 : decode cX9_ends 23 = .ok (.ireturn, 1) := by decide +kernel
theorem dX9_keep_0 : decode cX9_keep 0 = .ok (.aload_n 0, 1) := by decide +kernel
theorem dX9_keep_1 : decode cX9_keep 1 = .ok (.iload_n 1, 1) := by decide +kernel
theorem dX9_keep_2 : decode cX9_keep 2 = .ok (.invokevirtual 323, 3) := by decide +kernel
theorem dX9_keep_5 : decode cX9_keep 5 = .ok (.astore_n 2, 1) := by decide +kernel
theorem dX9_keep_6 : decode cX9_keep 6 = .ok (.aload_n 2, 1) := by decide +kernel
theorem dX9_keep_7 : decode cX9_keep 7 = .ok (.ifnonnull 6, 3) := by decide +kernel
theorem dX9_keep_10 : decode cX9_keep 10 = .ok (.ldc 136, 2) := by decide +kernel
theorem dX9_keep_12 : decode cX9_keep 12 = .ok (.ireturn, 1) := by decide +kernel
theorem dX9_keep_13 : decode cX9_keep 13 = .ok (.aload_n 2, 1) := by decide +kernel
theorem dX9_keep_14 : decode cX9_keep 14 = .ok (.aload_n 0, 1) := by decide +kernel
theorem dX9_keep_15 : decode cX9_keep 15 = .ok (.getfield 45, 3) := by decide +kernel
theorem dX9_keep_18 : decode cX9_keep 18 = .ok (.invokevirtual 327, 3) := by decide +kernel
theorem dX9_keep_21 : decode cX9_keep 21 = .ok (.aload_n 2, 1) := by decide +kernel
theorem dX9_keep_22 : decode cX9_keep 22 = .ok (.iconst 1, 1) := by decide +kernel
theorem dX9_keep_23 : decode cX9_keep 23 = .ok (.putfield 330, 3) := by decide +kernel
theorem dX9_keep_26 : decode cX9_keep 26 = .ok (.iconst 1, 1) := by decide +kernel
theorem dX9_keep_27 : decode cX9_keep 27 = .ok (.ireturn, 1) := by decide +kernel
theorem dX9_goBack_0 : decode cX9_goBack 0 = .ok (.aload_n 0, 1) := by decide +kernel
theorem dX9_goBack_1 : decode cX9_goBack 1 = .ok (.iload_n 1, 1) := by decide +kernel
theorem dX9_goBack_2 : decode cX9_goBack 2 = .ok (.invokevirtual 323, 3) := by decide +kernel
theorem dX9_goBack_5 : decode cX9_goBack 5 = .ok (.astore_n 2, 1) := by decide +kernel
theorem dX9_goBack_6 : decode cX9_goBack 6 = .ok (.aload_n 2, 1) := by decide +kernel
theorem dX9_goBack_7 : decode cX9_goBack 7 = .ok (.ifnonnull 6, 3) := by decide +kernel
theorem dX9_goBack_10 : decode cX9_goBack 10 = .ok (.ldc 136, 2) := by decide +kernel
theorem dX9_goBack_12 : decode cX9_goBack 12 = .ok (.ireturn, 1) := by decide +kernel
theorem dX9_goBack_13 : decode cX9_goBack 13 = .ok (.aload_n 2, 1) := by decide +kernel
theorem dX9_goBack_14 : decode cX9_goBack 14 = .ok (.getfield 330, 3) := by decide +kernel
theorem dX9_goBack_17 : decode cX9_goBack 17 = .ok (.ifCond .ne 6, 3) := by decide +kernel
theorem dX9_goBack_20 : decode cX9_goBack 20 = .ok (.ldc 124, 2) := by decide +kernel
theorem dX9_goBack_22 : decode cX9_goBack 22 = .ok (.ireturn, 1) := by decide +kernel
theorem dX9_goBack_23 : decode cX9_goBack 23 = .ok (.aload_n 0, 1) := by decide +kernel
theorem dX9_goBack_24 : decode cX9_goBack 24 = .ok (.getfield 45, 3) := by decide +kernel
theorem dX9_goBack_27 : decode cX9_goBack 27 = .ok (.aload_n 2, 1) := by decide +kernel
theorem dX9_goBack_28 : decode cX9_goBack 28 = .ok (.invokevirtual 327, 3) := by decide +kernel
theorem dX9_goBack_31 : decode cX9_goBack 31 = .ok (.aload_n 0, 1) := by decide +kernel
theorem dX9_goBack_32 : decode cX9_goBack 32 = .ok (.getfield 45, 3) := by decide +kernel
theorem dX9_goBack_35 : decode cX9_goBack 35 = .ok (.iconst 1, 1) := by decide +kernel
theorem dX9_goBack_36 : decode cX9_goBack 36 = .ok (.aload_n 0, 1) := by decide +kernel
theorem dX9_goBack_37 : decode cX9_goBack 37 = .ok (.getfield 45, 3) := by decide +kernel
theorem dX9_goBack_40 : decode cX9_goBack 40 = .ok (.iconst 1, 1) := by decide +kernel
theorem dX9_goBack_41 : decode cX9_goBack 41 = .ok (.invokevirtual 162, 3) := by decide +kernel
theorem dX9_goBack_44 : decode cX9_goBack 44 = .ok (.aload_n 0, 1) := by decide +kernel
theorem dX9_goBack_45 : decode cX9_goBack 45 = .ok (.iconst 1, 1) := by decide +kernel
theorem dX9_goBack_46 : decode cX9_goBack 46 = .ok (.invokevirtual 159, 3) := by decide +kernel
theorem dX9_goBack_49 : decode cX9_goBack 49 = .ok (.invokestatic 334, 3) := by decide +kernel
theorem dX9_goBack_52 : decode cX9_goBack 52 = .ok (.invokevirtual 165, 3) := by decide +kernel
theorem dX9_goBack_55 : decode cX9_goBack 55 = .ok (.iconst 1, 1) := by decide +kernel
theorem dX9_goBack_56 : decode cX9_goBack 56 = .ok (.ireturn, 1) := by decide +kernel
theorem dX9_swingerAt_0 : decode cX9_swingerAt 0 = .ok (.iload_n 1, 1) := by decide +kernel
theorem dX9_swingerAt_1 : decode cX9_swingerAt 1 = .ok (.ifCond .lt 29, 3) := by decide +kernel
theorem dX9_swingerAt_4 : decode cX9_swingerAt 4 = .ok (.iload_n 1, 1) := by decide +kernel
theorem dX9_swingerAt_5 : decode cX9_swingerAt 5 = .ok (.aload_n 0, 1) := by decide +kernel
theorem dX9_swingerAt_6 : decode cX9_swingerAt 6 = .ok (.getfield 125, 3) := by decide +kernel
theorem dX9_swingerAt_9 : decode cX9_swingerAt 9 = .ok (.if_icmp .ge 21, 3) := by decide +kernel
theorem dX9_swingerAt_12 : decode cX9_swingerAt 12 = .ok (.iload_n 1, 1) := by decide +kernel
theorem dX9_swingerAt_13 : decode cX9_swingerAt 13 = .ok (.aload_n 0, 1) := by decide +kernel
theorem dX9_swingerAt_14 : decode cX9_swingerAt 14 = .ok (.getfield 37, 3) := by decide +kernel
theorem dX9_swingerAt_17 : decode cX9_swingerAt 17 = .ok (.arraylength, 1) := by decide +kernel
theorem dX9_swingerAt_18 : decode cX9_swingerAt 18 = .ok (.if_icmp .ge 12, 3) := by decide +kernel
theorem dX9_swingerAt_21 : decode cX9_swingerAt 21 = .ok (.aload_n 0, 1) := by decide +kernel
theorem dX9_swingerAt_22 : decode cX9_swingerAt 22 = .ok (.getfield 37, 3) := by decide +kernel
theorem dX9_swingerAt_25 : decode cX9_swingerAt 25 = .ok (.iload_n 1, 1) := by decide +kernel
theorem dX9_swingerAt_26 : decode cX9_swingerAt 26 = .ok (.aaload, 1) := by decide +kernel
theorem dX9_swingerAt_27 : decode cX9_swingerAt 27 = .ok (.goto 4, 3) := by decide +kernel
theorem dX9_swingerAt_30 : decode cX9_swingerAt 30 = .ok (.aconst_null, 1) := by decide +kernel
theorem dX9_swingerAt_31 : decode cX9_swingerAt 31 = .ok (.areturn, 1) := by decide +kernel
theorem dX9_imageAt_0 : decode cX9_imageAt 0 = .ok (.iload_n 1, 1) := by decide +kernel
theorem dX9_imageAt_1 : decode cX9_imageAt 1 = .ok (.ifCond .lt 21, 3) := by decide +kernel
theorem dX9_imageAt_4 : decode cX9_imageAt 4 = .ok (.iload_n 1, 1) := by decide +kernel
theorem dX9_imageAt_5 : decode cX9_imageAt 5 = .ok (.aload_n 0, 1) := by decide +kernel
theorem dX9_imageAt_6 : decode cX9_imageAt 6 = .ok (.getfield 49, 3) := by decide +kernel
theorem dX9_imageAt_9 : decode cX9_imageAt 9 = .ok (.arraylength, 1) := by decide +kernel
theorem dX9_imageAt_10 : decode cX9_imageAt 10 = .ok (.if_icmp .ge 12, 3) := by decide +kernel
theorem dX9_imageAt_13 : decode cX9_imageAt 13 = .ok (.aload_n 0, 1) := by decide +kernel
theorem dX9_imageAt_14 : decode cX9_imageAt 14 = .ok (.getfield 49, 3) := by decide +kernel
theorem dX9_imageAt_17 : decode cX9_imageAt 17 = .ok (.iload_n 1, 1) := by decide +kernel
theorem dX9_imageAt_18 : decode cX9_imageAt 18 = .ok (.aaload, 1) := by decide +kernel
theorem dX9_imageAt_19 : decode cX9_imageAt 19 = .ok (.goto 4, 3) := by decide +kernel
theorem dX9_imageAt_22 : decode cX9_imageAt 22 = .ok (.aconst_null, 1) := by decide +kernel
theorem dX9_imageAt_23 : decode cX9_imageAt 23 = .ok (.areturn, 1) := by decide +kernel
theorem dX9_mostInHand_0 : decode cX9_mostInHand 0 = .ok (.getstatic 156, 3) := by decide +kernel
theorem dX9_mostInHand_3 : decode cX9_mostInHand 3 = .ok (.iload_n 1, 1) := by decide +kernel
theorem dX9_mostInHand_4 : decode cX9_mostInHand 4 = .ok (.invokestatic 337, 3) := by decide +kernel
theorem dX9_mostInHand_7 : decode cX9_mostInHand 7 = .ok (.istore_n 2, 1) := by decide +kernel
theorem dX9_mostInHand_8 : decode cX9_mostInHand 8 = .ok (.iload_n 1, 1) := by decide +kernel
theorem dX9_mostInHand_9 : decode cX9_mostInHand 9 = .ok (.iconst 1, 1) := by decide +kernel
theorem dX9_mostInHand_10 : decode cX9_mostInHand 10 = .ok (.if_icmp .ne 21, 3) := by decide +kernel
theorem dX9_mostInHand_13 : decode cX9_mostInHand 13 = .ok (.iload_n 2, 1) := by decide +kernel
theorem dX9_mostInHand_14 : decode cX9_mostInHand 14 = .ok (.aload_n 0, 1) := by decide +kernel
theorem dX9_mostInHand_15 : decode cX9_mostInHand 15 = .ok (.getfield 28, 3) := by decide +kernel
theorem dX9_mostInHand_18 : decode cX9_mostInHand 18 = .ok (.iconst 1, 1) := by decide +kernel
theorem dX9_mostInHand_19 : decode cX9_mostInHand 19 = .ok (.invokevirtual 132, 3) := by decide +kernel
theorem dX9_mostInHand_22 : decode cX9_mostInHand 22 = .ok (.bipush 50, 2) := by decide +kernel
theorem dX9_mostInHand_24 : decode cX9_mostInHand 24 = .ok (.isub, 1) := by decide +kernel
theorem dX9_mostInHand_25 : decode cX9_mostInHand 25 = .ok (.invokestatic 334, 3) := by decide +kernel
theorem dX9_mostInHand_28 : decode cX9_mostInHand 28 = .ok (.goto 4, 3) := by decide +kernel
theorem dX9_mostInHand_31 : decode cX9_mostInHand 31 = .ok (.iload_n 2, 1) := by decide +kernel
theorem dX9_mostInHand_32 : decode cX9_mostInHand 32 = .ok (.ireturn, 1) := by decide +kernel
theorem dX9_lengthNow_0 : decode cX9_lengthNow 0 = .ok (.aload_n 0, 1) := by decide +kernel
theorem dX9_lengthNow_1 : decode cX9_lengthNow 1 = .ok (.getfield 28, 3) := by decide +kernel
theorem dX9_lengthNow_4 : decode cX9_lengthNow 4 = .ok (.iconst 1, 1) := by decide +kernel
theorem dX9_lengthNow_5 : decode cX9_lengthNow 5 = .ok (.invokevirtual 132, 3) := by decide +kernel
theorem dX9_lengthNow_8 : decode cX9_lengthNow 8 = .ok (.aload_n 0, 1) := by decide +kernel
theorem dX9_lengthNow_9 : decode cX9_lengthNow 9 = .ok (.getfield 45, 3) := by decide +kernel
theorem dX9_lengthNow_12 : decode cX9_lengthNow 12 = .ok (.iconst 1, 1) := by decide +kernel
theorem dX9_lengthNow_13 : decode cX9_lengthNow 13 = .ok (.invokevirtual 162, 3) := by decide +kernel
theorem dX9_lengthNow_16 : decode cX9_lengthNow 16 = .ok (.isub, 1) := by decide +kernel
theorem dX9_lengthNow_17 : decode cX9_lengthNow 17 = .ok (.ireturn, 1) := by decide +kernel
theorem dX9_lowerNow_0 : decode cX9_lowerNow 0 = .ok (.aload_n 0, 1) := by decide +kernel
theorem dX9_lowerNow_1 : decode cX9_lowerNow 1 = .ok (.getfield 28, 3) := by decide +kernel
theorem dX9_lowerNow_4 : decode cX9_lowerNow 4 = .ok (.aload_n 0, 1) := by decide +kernel
theorem dX9_lowerNow_5 : decode cX9_lowerNow 5 = .ok (.getfield 45, 3) := by decide +kernel
theorem dX9_lowerNow_8 : decode cX9_lowerNow 8 = .ok (.iconst 0, 1) := by decide +kernel
theorem dX9_lowerNow_9 : decode cX9_lowerNow 9 = .ok (.invokevirtual 162, 3) := by decide +kernel
theorem dX9_lowerNow_12 : decode cX9_lowerNow 12 = .ok (.invokevirtual 265, 3) := by decide +kernel
theorem dX9_lowerNow_15 : decode cX9_lowerNow 15 = .ok (.ireturn, 1) := by decide +kernel
theorem dX9_strengthAfter_0 : decode cX9_strengthAfter 0 = .ok (.aload_n 0, 1) := by decide +kernel
theorem dX9_strengthAfter_1 : decode cX9_strengthAfter 1 = .ok (.getfield 28, 3) := by decide +kernel
theorem dX9_strengthAfter_4 : decode cX9_strengthAfter 4 = .ok (.iconst 2, 1) := by decide +kernel
theorem dX9_strengthAfter_5 : decode cX9_strengthAfter 5 = .ok (.invokevirtual 132, 3) := by decide +kernel
theorem dX9_strengthAfter_8 : decode cX9_strengthAfter 8 = .ok (.istore_n 2, 1) := by decide +kernel
theorem dX9_strengthAfter_9 : decode cX9_strengthAfter 9 = .ok (.iconst 1, 1) := by decide +kernel
theorem dX9_strengthAfter_10 : decode cX9_strengthAfter 10 = .ok (.istore_n 3, 1) := by decide +kernel
theorem dX9_strengthAfter_11 : decode cX9_strengthAfter 11 = .ok (.iload_n 3, 1) := by decide +kernel
theorem dX9_strengthAfter_12 : decode cX9_strengthAfter 12 = .ok (.iload_n 1, 1) := by decide +kernel
theorem dX9_strengthAfter_13 : decode cX9_strengthAfter 13 = .ok (.if_icmp .gt 25, 3) := by decide +kernel
theorem dX9_strengthAfter_16 : decode cX9_strengthAfter 16 = .ok (.iload_n 2, 1) := by decide +kernel
theorem dX9_strengthAfter_17 : decode cX9_strengthAfter 17 = .ok (.iload_n 2, 1) := by decide +kernel
theorem dX9_strengthAfter_18 : decode cX9_strengthAfter 18 = .ok (.aload_n 0, 1) := by decide +kernel
theorem dX9_strengthAfter_19 : decode cX9_strengthAfter 19 = .ok (.getfield 28, 3) := by decide +kernel
theorem dX9_strengthAfter_22 : decode cX9_strengthAfter 22 = .ok (.iconst 3, 1) := by decide +kernel
theorem dX9_strengthAfter_23 : decode cX9_strengthAfter 23 = .ok (.invokevirtual 132, 3) := by decide +kernel
theorem dX9_strengthAfter_26 : decode cX9_strengthAfter 26 = .ok (.imul, 1) := by decide +kernel
theorem dX9_strengthAfter_27 : decode cX9_strengthAfter 27 = .ok (.bipush 100, 2) := by decide +kernel
theorem dX9_strengthAfter_29 : decode cX9_strengthAfter 29 = .ok (.idiv, 1) := by decide +kernel
theorem dX9_strengthAfter_30 : decode cX9_strengthAfter 30 = .ok (.isub, 1) := by decide +kernel
theorem dX9_strengthAfter_31 : decode cX9_strengthAfter 31 = .ok (.istore_n 2, 1) := by decide +kernel
theorem dX9_strengthAfter_32 : decode cX9_strengthAfter 32 = .ok (.iinc 3 1, 3) := by decide +kernel
theorem dX9_strengthAfter_35 : decode cX9_strengthAfter 35 = .ok (.goto (-24), 3) := by decide +kernel
theorem dX9_strengthAfter_38 : decode cX9_strengthAfter 38 = .ok (.iload_n 2, 1) := by decide +kernel
theorem dX9_strengthAfter_39 : decode cX9_strengthAfter 39 = .ok (.ireturn, 1) := by decide +kernel
theorem dX9_traceNow_0 : decode cX9_traceNow 0 = .ok (.aload_n 0, 1) := by decide +kernel
theorem dX9_traceNow_1 : decode cX9_traceNow 1 = .ok (.getfield 63, 3) := by decide +kernel
theorem dX9_traceNow_4 : decode cX9_traceNow 4 = .ok (.aload_n 0, 1) := by decide +kernel
theorem dX9_traceNow_5 : decode cX9_traceNow 5 = .ok (.getfield 28, 3) := by decide +kernel
theorem dX9_traceNow_8 : decode cX9_traceNow 8 = .ok (.iconst 0, 1) := by decide +kernel
theorem dX9_traceNow_9 : decode cX9_traceNow 9 = .ok (.invokevirtual 132, 3) := by decide +kernel
theorem dX9_traceNow_12 : decode cX9_traceNow 12 = .ok (.aload_n 0, 1) := by decide +kernel
theorem dX9_traceNow_13 : decode cX9_traceNow 13 = .ok (.invokevirtual 169, 3) := by decide +kernel
theorem dX9_traceNow_16 : decode cX9_traceNow 16 = .ok (.aload_n 0, 1) := by decide +kernel
theorem dX9_traceNow_17 : decode cX9_traceNow 17 = .ok (.getfield 45, 3) := by decide +kernel
theorem dX9_traceNow_20 : decode cX9_traceNow 20 = .ok (.iconst 3, 1) := by decide +kernel
theorem dX9_traceNow_21 : decode cX9_traceNow 21 = .ok (.invokevirtual 162, 3) := by decide +kernel
theorem dX9_traceNow_24 : decode cX9_traceNow 24 = .ok (.aload_n 0, 1) := by decide +kernel
theorem dX9_traceNow_25 : decode cX9_traceNow 25 = .ok (.getfield 45, 3) := by decide +kernel
theorem dX9_traceNow_28 : decode cX9_traceNow 28 = .ok (.iconst 4, 1) := by decide +kernel
theorem dX9_traceNow_29 : decode cX9_traceNow 29 = .ok (.invokevirtual 162, 3) := by decide +kernel
theorem dX9_traceNow_32 : decode cX9_traceNow 32 = .ok (.invokevirtual 273, 3) := by decide +kernel
theorem dX9_traceNow_35 : decode cX9_traceNow 35 = .ok (.return_, 1) := by decide +kernel
theorem dX9_ready_0 : decode cX9_ready 0 = .ok (.aload_n 0, 1) := by decide +kernel
theorem dX9_ready_1 : decode cX9_ready 1 = .ok (.getfield 63, 3) := by decide +kernel
theorem dX9_ready_4 : decode cX9_ready 4 = .ok (.aload_n 0, 1) := by decide +kernel
theorem dX9_ready_5 : decode cX9_ready 5 = .ok (.getfield 28, 3) := by decide +kernel
theorem dX9_ready_8 : decode cX9_ready 8 = .ok (.iconst 0, 1) := by decide +kernel
theorem dX9_ready_9 : decode cX9_ready 9 = .ok (.invokevirtual 132, 3) := by decide +kernel
theorem dX9_ready_12 : decode cX9_ready 12 = .ok (.aload_n 0, 1) := by decide +kernel
theorem dX9_ready_13 : decode cX9_ready 13 = .ok (.invokevirtual 169, 3) := by decide +kernel
theorem dX9_ready_16 : decode cX9_ready 16 = .ok (.aload_n 0, 1) := by decide +kernel
theorem dX9_ready_17 : decode cX9_ready 17 = .ok (.getfield 45, 3) := by decide +kernel
theorem dX9_ready_20 : decode cX9_ready 20 = .ok (.iconst 3, 1) := by decide +kernel
theorem dX9_ready_21 : decode cX9_ready 21 = .ok (.invokevirtual 162, 3) := by decide +kernel
theorem dX9_ready_24 : decode cX9_ready 24 = .ok (.aload_n 0, 1) := by decide +kernel
theorem dX9_ready_25 : decode cX9_ready 25 = .ok (.getfield 45, 3) := by decide +kernel
theorem dX9_ready_28 : decode cX9_ready 28 = .ok (.iconst 4, 1) := by decide +kernel
theorem dX9_ready_29 : decode cX9_ready 29 = .ok (.invokevirtual 162, 3) := by decide +kernel
theorem dX9_ready_32 : decode cX9_ready 32 = .ok (.invokevirtual 273, 3) := by decide +kernel
theorem dX9_ready_35 : decode cX9_ready 35 = .ok (.aload_n 0, 1) := by decide +kernel
theorem dX9_ready_36 : decode cX9_ready 36 = .ok (.getfield 72, 3) := by decide +kernel
theorem dX9_ready_39 : decode cX9_ready 39 = .ok (.aload_n 0, 1) := by decide +kernel
theorem dX9_ready_40 : decode cX9_ready 40 = .ok (.aload_n 0, 1) := by decide +kernel
theorem dX9_ready_41 : decode cX9_ready 41 = .ok (.getfield 45, 3) := by decide +kernel
theorem dX9_ready_44 : decode cX9_ready 44 = .ok (.iconst 2, 1) := by decide +kernel
theorem dX9_ready_45 : decode cX9_ready 45 = .ok (.invokevirtual 162, 3) := by decide +kernel
theorem dX9_ready_48 : decode cX9_ready 48 = .ok (.invokevirtual 172, 3) := by decide +kernel
theorem dX9_ready_51 : decode cX9_ready 51 = .ok (.putfield 294, 3) := by decide +kernel
theorem dX9_ready_54 : decode cX9_ready 54 = .ok (.aload_n 0, 1) := by decide +kernel
theorem dX9_ready_55 : decode cX9_ready 55 = .ok (.getfield 72, 3) := by decide +kernel
theorem dX9_ready_58 : decode cX9_ready 58 = .ok (.aload_n 0, 1) := by decide +kernel
theorem dX9_ready_59 : decode cX9_ready 59 = .ok (.invokevirtual 140, 3) := by decide +kernel
theorem dX9_ready_62 : decode cX9_ready 62 = .ok (.putfield 268, 3) := by decide +kernel
theorem dX9_ready_65 : decode cX9_ready 65 = .ok (.aload_n 0, 1) := by decide +kernel
theorem dX9_ready_66 : decode cX9_ready 66 = .ok (.getfield 72, 3) := by decide +kernel
theorem dX9_ready_69 : decode cX9_ready 69 = .ok (.aload_n 1, 1) := by decide +kernel
theorem dX9_ready_70 : decode cX9_ready 70 = .ok (.invokevirtual 341, 3) := by decide +kernel
theorem dX9_ready_73 : decode cX9_ready 73 = .ok (.aload_n 0, 1) := by decide +kernel
theorem dX9_ready_74 : decode cX9_ready 74 = .ok (.getfield 72, 3) := by decide +kernel
theorem dX9_ready_77 : decode cX9_ready 77 = .ok (.invokevirtual 270, 3) := by decide +kernel
theorem dX9_ready_80 : decode cX9_ready 80 = .ok (.return_, 1) := by decide +kernel
theorem dX9_findFarthest_0 : decode cX9_findFarthest 0 = .ok (.iconst 0, 1) := by decide +kernel
theorem dX9_findFarthest_1 : decode cX9_findFarthest 1 = .ok (.istore_n 1, 1) := by decide +kernel
theorem dX9_findFarthest_2 : decode cX9_findFarthest 2 = .ok (.iload_n 1, 1) := by decide +kernel
theorem dX9_findFarthest_3 : decode cX9_findFarthest 3 = .ok (.aload_n 0, 1) := by decide +kernel
theorem dX9_findFarthest_4 : decode cX9_findFarthest 4 = .ok (.getfield 125, 3) := by decide +kernel
theorem dX9_findFarthest_7 : decode cX9_findFarthest 7 = .ok (.if_icmp .ge 66, 3) := by decide +kernel
theorem dX9_findFarthest_10 : decode cX9_findFarthest 10 = .ok (.aload_n 0, 1) := by decide +kernel
theorem dX9_findFarthest_11 : decode cX9_findFarthest 11 = .ok (.iload_n 1, 1) := by decide +kernel
theorem dX9_findFarthest_12 : decode cX9_findFarthest 12 = .ok (.invokevirtual 147, 3) := by decide +kernel
theorem dX9_findFarthest_15 : decode cX9_findFarthest 15 = .ok (.astore_n 2, 1) := by decide +kernel
theorem dX9_findFarthest_16 : decode cX9_findFarthest 16 = .ok (.aload_n 2, 1) := by decide +kernel
theorem dX9_findFarthest_17 : decode cX9_findFarthest 17 = .ok (.ifnull 50, 3) := by decide +kernel
theorem dX9_findFarthest_20 : decode cX9_findFarthest 20 = .ok (.aload_n 0, 1) := by decide +kernel
theorem dX9_findFarthest_21 : decode cX9_findFarthest 21 = .ok (.aload_n 2, 1) := by decide +kernel
theorem dX9_findFarthest_22 : decode cX9_findFarthest 22 = .ok (.invokevirtual 200, 3) := by decide +kernel
theorem dX9_findFarthest_25 : decode cX9_findFarthest 25 = .ok (.aload_n 0, 1) := by decide +kernel
theorem dX9_findFarthest_26 : decode cX9_findFarthest 26 = .ok (.getfield 79, 3) := by decide +kernel
theorem dX9_findFarthest_29 : decode cX9_findFarthest 29 = .ok (.aload_n 0, 1) := by decide +kernel
theorem dX9_findFarthest_30 : decode cX9_findFarthest 30 = .ok (.getfield 72, 3) := by decide +kernel
theorem dX9_findFarthest_33 : decode cX9_findFarthest 33 = .ok (.invokevirtual 228, 3) := by decide +kernel
theorem dX9_findFarthest_36 : decode cX9_findFarthest 36 = .ok (.aload_n 0, 1) := by decide +kernel
theorem dX9_findFarthest_37 : decode cX9_findFarthest 37 = .ok (.getfield 83, 3) := by decide +kernel
theorem dX9_findFarthest_40 : decode cX9_findFarthest 40 = .ok (.iload_n 1, 1) := by decide +kernel
theorem dX9_findFarthest_41 : decode cX9_findFarthest 41 = .ok (.aload_n 0, 1) := by decide +kernel
theorem dX9_findFarthest_42 : decode cX9_findFarthest 42 = .ok (.getfield 79, 3) := by decide +kernel
theorem dX9_findFarthest_45 : decode cX9_findFarthest 45 = .ok (.getfield 232, 3) := by decide +kernel
theorem dX9_findFarthest_48 : decode cX9_findFarthest 48 = .ok (.iconst (-1), 1) := by decide +kernel
theorem dX9_findFarthest_49 : decode cX9_findFarthest 49 = .ok (.if_icmp .ne 8, 3) := by decide +kernel
theorem dX9_findFarthest_52 : decode cX9_findFarthest 52 = .ok (.bipush 20, 2) := by decide +kernel
theorem dX9_findFarthest_54 : decode cX9_findFarthest 54 = .ok (.goto 10, 3) := by decide +kernel
theorem dX9_findFarthest_57 : decode cX9_findFarthest 57 = .ok (.aload_n 0, 1) := by decide +kernel
theorem dX9_findFarthest_58 : decode cX9_findFarthest 58 = .ok (.getfield 79, 3) := by decide +kernel
theorem dX9_findFarthest_61 : decode cX9_findFarthest 61 = .ok (.getfield 232, 3) := by decide +kernel
theorem dX9_findFarthest_64 : decode cX9_findFarthest 64 = .ok (.invokestatic 344, 3) := by decide +kernel
theorem dX9_findFarthest_67 : decode cX9_findFarthest 67 = .ok (.iinc 1 1, 3) := by decide +kernel
theorem dX9_findFarthest_70 : decode cX9_findFarthest 70 = .ok (.goto (-68), 3) := by decide +kernel
theorem dX9_findFarthest_73 : decode cX9_findFarthest 73 = .ok (.return_, 1) := by decide +kernel
theorem dX9_harmedBy_0 : decode cX9_harmedBy 0 = .ok (.iconst 0, 1) := by decide +kernel
theorem dX9_harmedBy_1 : decode cX9_harmedBy 1 = .ok (.istore_n 2, 1) := by decide +kernel
theorem dX9_harmedBy_2 : decode cX9_harmedBy 2 = .ok (.iconst 0, 1) := by decide +kernel
theorem dX9_harmedBy_3 : decode cX9_harmedBy 3 = .ok (.istore_n 3, 1) := by decide +kernel
theorem dX9_harmedBy_4 : decode cX9_harmedBy 4 = .ok (.iload_n 3, 1) := by decide +kernel
theorem dX9_harmedBy_5 : decode cX9_harmedBy 5 = .ok (.aload_n 0, 1) := by decide +kernel
theorem dX9_harmedBy_6 : decode cX9_harmedBy 6 = .ok (.getfield 125, 3) := by decide +kernel
theorem dX9_harmedBy_9 : decode cX9_harmedBy 9 = .ok (.if_icmp .ge 55, 3) := by decide +kernel
theorem dX9_harmedBy_12 : decode cX9_harmedBy 12 = .ok (.aload_n 0, 1) := by decide +kernel
theorem dX9_harmedBy_13 : decode cX9_harmedBy 13 = .ok (.iload_n 3, 1) := by decide +kernel
theorem dX9_harmedBy_14 : decode cX9_harmedBy 14 = .ok (.invokevirtual 147, 3) := by decide +kernel
theorem dX9_harmedBy_17 : decode cX9_harmedBy 17 = .ok (.astore 4, 2) := by decide +kernel
theorem dX9_harmedBy_19 : decode cX9_harmedBy 19 = .ok (.aload 4, 2) := by decide +kernel
theorem dX9_harmedBy_21 : decode cX9_harmedBy 21 = .ok (.ifnull 37, 3) := by decide +kernel
theorem dX9_harmedBy_24 : decode cX9_harmedBy 24 = .ok (.aload_n 0, 1) := by decide +kernel
theorem dX9_harmedBy_25 : decode cX9_harmedBy 25 = .ok (.aload 4, 2) := by decide +kernel
theorem dX9_harmedBy_27 : decode cX9_harmedBy 27 = .ok (.iload_n 1, 1) := by decide +kernel
theorem dX9_harmedBy_28 : decode cX9_harmedBy 28 = .ok (.invokevirtual 348, 3) := by decide +kernel
theorem dX9_harmedBy_31 : decode cX9_harmedBy 31 = .ok (.ifCond .ne 27, 3) := by decide +kernel
theorem dX9_harmedBy_34 : decode cX9_harmedBy 34 = .ok (.aload_n 0, 1) := by decide +kernel
theorem dX9_harmedBy_35 : decode cX9_harmedBy 35 = .ok (.aload 4, 2) := by decide +kernel
theorem dX9_harmedBy_37 : decode cX9_harmedBy 37 = .ok (.aload_n 0, 1) := by decide +kernel
theorem dX9_harmedBy_38 : decode cX9_harmedBy 38 = .ok (.getfield 83, 3) := by decide +kernel
theorem dX9_harmedBy_41 : decode cX9_harmedBy 41 = .ok (.iload_n 3, 1) := by decide +kernel
theorem dX9_harmedBy_42 : decode cX9_harmedBy 42 = .ok (.invokestatic 337, 3) := by decide +kernel
theorem dX9_harmedBy_45 : decode cX9_harmedBy 45 = .ok (.iload_n 1, 1) := by decide +kernel
theorem dX9_harmedBy_46 : decode cX9_harmedBy 46 = .ok (.invokevirtual 352, 3) := by decide +kernel
theorem dX9_harmedBy_49 : decode cX9_harmedBy 49 = .ok (.ifCond .eq 9, 3) := by decide +kernel
theorem dX9_harmedBy_52 : decode cX9_harmedBy 52 = .ok (.iload_n 2, 1) := by decide +kernel
theorem dX9_harmedBy_53 : decode cX9_harmedBy 53 = .ok (.iconst 1, 1) := by decide +kernel
theorem dX9_harmedBy_54 : decode cX9_harmedBy 54 = .ok (.iload_n 3, 1) := by decide +kernel
theorem dX9_harmedBy_55 : decode cX9_harmedBy 55 = .ok (.ishl, 1) := by decide +kernel
theorem dX9_harmedBy_56 : decode cX9_harmedBy 56 = .ok (.ior, 1) := by decide +kernel
theorem dX9_harmedBy_57 : decode cX9_harmedBy 57 = .ok (.istore_n 2, 1) := by decide +kernel
theorem dX9_harmedBy_58 : decode cX9_harmedBy 58 = .ok (.iinc 3 1, 3) := by decide +kernel
theorem dX9_harmedBy_61 : decode cX9_harmedBy 61 = .ok (.goto (-57), 3) := by decide +kernel
theorem dX9_harmedBy_64 : decode cX9_harmedBy 64 = .ok (.iload_n 2, 1) := by decide +kernel
theorem dX9_harmedBy_65 : decode cX9_harmedBy 65 = .ok (.ireturn, 1) := by decide +kernel
theorem dX9_keptOut_0 : decode cX9_keptOut 0 = .ok (.iload_n 2, 1) := by decide +kernel
theorem dX9_keptOut_1 : decode cX9_keptOut 1 = .ok (.iconst 1, 1) := by decide +kernel
theorem dX9_keptOut_2 : decode cX9_keptOut 2 = .ok (.iand, 1) := by decide +kernel
theorem dX9_keptOut_3 : decode cX9_keptOut 3 = .ok (.ifCond .eq 13, 3) := by decide +kernel
theorem dX9_keptOut_6 : decode cX9_keptOut 6 = .ok (.aload_n 1, 1) := by decide +kernel
theorem dX9_keptOut_7 : decode cX9_keptOut 7 = .ok (.iconst 0, 1) := by decide +kernel
theorem dX9_keptOut_8 : decode cX9_keptOut 8 = .ok (.invokevirtual 155, 3) := by decide +kernel
theorem dX9_keptOut_11 : decode cX9_keptOut 11 = .ok (.bipush 30, 2) := by decide +kernel
theorem dX9_keptOut_13 : decode cX9_keptOut 13 = .ok (.if_icmp .lt 35, 3) := by decide +kernel
theorem dX9_keptOut_16 : decode cX9_keptOut 16 = .ok (.iload_n 2, 1) := by decide +kernel
theorem dX9_keptOut_17 : decode cX9_keptOut 17 = .ok (.iconst 2, 1) := by decide +kernel
theorem dX9_keptOut_18 : decode cX9_keptOut 18 = .ok (.iand, 1) := by decide +kernel
theorem dX9_keptOut_19 : decode cX9_keptOut 19 = .ok (.ifCond .eq 13, 3) := by decide +kernel
theorem dX9_keptOut_22 : decode cX9_keptOut 22 = .ok (.aload_n 1, 1) := by decide +kernel
theorem dX9_keptOut_23 : decode cX9_keptOut 23 = .ok (.iconst 0, 1) := by decide +kernel
theorem dX9_keptOut_24 : decode cX9_keptOut 24 = .ok (.invokevirtual 155, 3) := by decide +kernel
theorem dX9_keptOut_27 : decode cX9_keptOut 27 = .ok (.bipush 90, 2) := by decide +kernel
theorem dX9_keptOut_29 : decode cX9_keptOut 29 = .ok (.if_icmp .gt 19, 3) := by decide +kernel
theorem dX9_keptOut_32 : decode cX9_keptOut 32 = .ok (.iload_n 2, 1) := by decide +kernel
theorem dX9_keptOut_33 : decode cX9_keptOut 33 = .ok (.bipush 32, 2) := by decide +kernel
theorem dX9_keptOut_35 : decode cX9_keptOut 35 = .ok (.iand, 1) := by decide +kernel
theorem dX9_keptOut_36 : decode cX9_keptOut 36 = .ok (.ifCond .eq 16, 3) := by decide +kernel
theorem dX9_keptOut_39 : decode cX9_keptOut 39 = .ok (.aload_n 0, 1) := by decide +kernel
theorem dX9_keptOut_40 : decode cX9_keptOut 40 = .ok (.invokevirtual 140, 3) := by decide +kernel
theorem dX9_keptOut_43 : decode cX9_keptOut 43 = .ok (.bipush 50, 2) := by decide +kernel
theorem dX9_keptOut_45 : decode cX9_keptOut 45 = .ok (.if_icmp .lt 7, 3) := by decide +kernel
theorem dX9_keptOut_48 : decode cX9_keptOut 48 = .ok (.iconst 1, 1) := by decide +kernel
theorem dX9_keptOut_49 : decode cX9_keptOut 49 = .ok (.goto 4, 3) := by decide +kernel
theorem dX9_keptOut_52 : decode cX9_keptOut 52 = .ok (.iconst 0, 1) := by decide +kernel
theorem dX9_keptOut_53 : decode cX9_keptOut 53 = .ok (.ireturn, 1) := by decide +kernel
theorem dX9_comesToHarm_0 : decode cX9_comesToHarm 0 = .ok (.iload_n 3, 1) := by decide +kernel
theorem dX9_comesToHarm_1 : decode cX9_comesToHarm 1 = .ok (.iconst 4, 1) := by decide +kernel
theorem dX9_comesToHarm_2 : decode cX9_comesToHarm 2 = .ok (.iand, 1) := by decide +kernel
theorem dX9_comesToHarm_3 : decode cX9_comesToHarm 3 = .ok (.ifCond .eq 7, 3) := by decide +kernel
theorem dX9_comesToHarm_6 : decode cX9_comesToHarm 6 = .ok (.iconst 0, 1) := by decide +kernel
theorem dX9_comesToHarm_7 : decode cX9_comesToHarm 7 = .ok (.goto 11, 3) := by decide +kernel
theorem dX9_comesToHarm_10 : decode cX9_comesToHarm 10 = .ok (.aload_n 0, 1) := by decide +kernel
theorem dX9_comesToHarm_11 : decode cX9_comesToHarm 11 = .ok (.getfield 45, 3) := by decide +kernel
theorem dX9_comesToHarm_14 : decode cX9_comesToHarm 14 = .ok (.iconst 4, 1) := by decide +kernel
theorem dX9_comesToHarm_15 : decode cX9_comesToHarm 15 = .ok (.invokevirtual 162, 3) := by decide +kernel
theorem dX9_comesToHarm_18 : decode cX9_comesToHarm 18 = .ok (.istore 4, 2) := by decide +kernel
theorem dX9_comesToHarm_20 : decode cX9_comesToHarm 20 = .ok (.aload_n 0, 1) := by decide +kernel
theorem dX9_comesToHarm_21 : decode cX9_comesToHarm 21 = .ok (.getfield 63, 3) := by decide +kernel
theorem dX9_comesToHarm_24 : decode cX9_comesToHarm 24 = .ok (.aload_n 0, 1) := by decide +kernel
theorem dX9_comesToHarm_25 : decode cX9_comesToHarm 25 = .ok (.getfield 28, 3) := by decide +kernel
theorem dX9_comesToHarm_28 : decode cX9_comesToHarm 28 = .ok (.iconst 0, 1) := by decide +kernel
theorem dX9_comesToHarm_29 : decode cX9_comesToHarm 29 = .ok (.invokevirtual 132, 3) := by decide +kernel
theorem dX9_comesToHarm_32 : decode cX9_comesToHarm 32 = .ok (.aload_n 0, 1) := by decide +kernel
theorem dX9_comesToHarm_33 : decode cX9_comesToHarm 33 = .ok (.invokevirtual 169, 3) := by decide +kernel
theorem dX9_comesToHarm_36 : decode cX9_comesToHarm 36 = .ok (.aload_n 0, 1) := by decide +kernel
theorem dX9_comesToHarm_37 : decode cX9_comesToHarm 37 = .ok (.getfield 45, 3) := by decide +kernel
theorem dX9_comesToHarm_40 : decode cX9_comesToHarm 40 = .ok (.iconst 3, 1) := by decide +kernel
theorem dX9_comesToHarm_41 : decode cX9_comesToHarm 41 = .ok (.invokevirtual 162, 3) := by decide +kernel
theorem dX9_comesToHarm_44 : decode cX9_comesToHarm 44 = .ok (.iload 4, 2) := by decide +kernel
theorem dX9_comesToHarm_46 : decode cX9_comesToHarm 46 = .ok (.invokevirtual 273, 3) := by decide +kernel
theorem dX9_comesToHarm_49 : decode cX9_comesToHarm 49 = .ok (.aload_n 0, 1) := by decide +kernel
theorem dX9_comesToHarm_50 : decode cX9_comesToHarm 50 = .ok (.getfield 72, 3) := by decide +kernel
theorem dX9_comesToHarm_53 : decode cX9_comesToHarm 53 = .ok (.aload_n 0, 1) := by decide +kernel
theorem dX9_comesToHarm_54 : decode cX9_comesToHarm 54 = .ok (.iload_n 3, 1) := by decide +kernel
theorem dX9_comesToHarm_55 : decode cX9_comesToHarm 55 = .ok (.bipush 8, 2) := by decide +kernel
theorem dX9_comesToHarm_57 : decode cX9_comesToHarm 57 = .ok (.iand, 1) := by decide +kernel
theorem dX9_comesToHarm_58 : decode cX9_comesToHarm 58 = .ok (.ifCond .eq 7, 3) := by decide +kernel
theorem dX9_comesToHarm_61 : decode cX9_comesToHarm 61 = .ok (.iconst 0, 1) := by decide +kernel
theorem dX9_comesToHarm_62 : decode cX9_comesToHarm 62 = .ok (.goto 11, 3) := by decide +kernel
theorem dX9_comesToHarm_65 : decode cX9_comesToHarm 65 = .ok (.aload_n 0, 1) := by decide +kernel
theorem dX9_comesToHarm_66 : decode cX9_comesToHarm 66 = .ok (.getfield 45, 3) := by decide +kernel
theorem dX9_comesToHarm_69 : decode cX9_comesToHarm 69 = .ok (.iconst 2, 1) := by decide +kernel
theorem dX9_comesToHarm_70 : decode cX9_comesToHarm 70 = .ok (.invokevirtual 162, 3) := by decide +kernel
theorem dX9_comesToHarm_73 : decode cX9_comesToHarm 73 = .ok (.invokevirtual 172, 3) := by decide +kernel
theorem dX9_comesToHarm_76 : decode cX9_comesToHarm 76 = .ok (.putfield 294, 3) := by decide +kernel
theorem dX9_comesToHarm_79 : decode cX9_comesToHarm 79 = .ok (.aload_n 0, 1) := by decide +kernel
theorem dX9_comesToHarm_80 : decode cX9_comesToHarm 80 = .ok (.getfield 72, 3) := by decide +kernel
theorem dX9_comesToHarm_83 : decode cX9_comesToHarm 83 = .ok (.aload_n 0, 1) := by decide +kernel
theorem dX9_comesToHarm_84 : decode cX9_comesToHarm 84 = .ok (.invokevirtual 140, 3) := by decide +kernel
theorem dX9_comesToHarm_87 : decode cX9_comesToHarm 87 = .ok (.putfield 268, 3) := by decide +kernel
theorem dX9_comesToHarm_90 : decode cX9_comesToHarm 90 = .ok (.aload_n 0, 1) := by decide +kernel
theorem dX9_comesToHarm_91 : decode cX9_comesToHarm 91 = .ok (.getfield 72, 3) := by decide +kernel
theorem dX9_comesToHarm_94 : decode cX9_comesToHarm 94 = .ok (.aload_n 1, 1) := by decide +kernel
theorem dX9_comesToHarm_95 : decode cX9_comesToHarm 95 = .ok (.invokevirtual 341, 3) := by decide +kernel
theorem dX9_comesToHarm_98 : decode cX9_comesToHarm 98 = .ok (.iload_n 3, 1) := by decide +kernel
theorem dX9_comesToHarm_99 : decode cX9_comesToHarm 99 = .ok (.bipush 16, 2) := by decide +kernel
theorem dX9_comesToHarm_101 : decode cX9_comesToHarm 101 = .ok (.iand, 1) := by decide +kernel
theorem dX9_comesToHarm_102 : decode cX9_comesToHarm 102 = .ok (.ifCond .eq 11, 3) := by decide +kernel
theorem dX9_comesToHarm_105 : decode cX9_comesToHarm 105 = .ok (.aload_n 0, 1) := by decide +kernel
theorem dX9_comesToHarm_106 : decode cX9_comesToHarm 106 = .ok (.getfield 72, 3) := by decide +kernel
theorem dX9_comesToHarm_109 : decode cX9_comesToHarm 109 = .ok (.iconst 0, 1) := by decide +kernel
theorem dX9_comesToHarm_110 : decode cX9_comesToHarm 110 = .ok (.putfield 204, 3) := by decide +kernel
theorem dX9_comesToHarm_113 : decode cX9_comesToHarm 113 = .ok (.aload_n 0, 1) := by decide +kernel
theorem dX9_comesToHarm_114 : decode cX9_comesToHarm 114 = .ok (.getfield 72, 3) := by decide +kernel
theorem dX9_comesToHarm_117 : decode cX9_comesToHarm 117 = .ok (.invokevirtual 270, 3) := by decide +kernel
theorem dX9_comesToHarm_120 : decode cX9_comesToHarm 120 = .ok (.aload_n 0, 1) := by decide +kernel
theorem dX9_comesToHarm_121 : decode cX9_comesToHarm 121 = .ok (.getfield 72, 3) := by decide +kernel
theorem dX9_comesToHarm_124 : decode cX9_comesToHarm 124 = .ok (.iload_n 2, 1) := by decide +kernel
theorem dX9_comesToHarm_125 : decode cX9_comesToHarm 125 = .ok (.aload_n 0, 1) := by decide +kernel
theorem dX9_comesToHarm_126 : decode cX9_comesToHarm 126 = .ok (.getfield 72, 3) := by decide +kernel
theorem dX9_comesToHarm_129 : decode cX9_comesToHarm 129 = .ok (.getfield 204, 3) := by decide +kernel
theorem dX9_comesToHarm_132 : decode cX9_comesToHarm 132 = .ok (.iadd, 1) := by decide +kernel
theorem dX9_comesToHarm_133 : decode cX9_comesToHarm 133 = .ok (.invokevirtual 244, 3) := by decide +kernel
theorem dX9_comesToHarm_136 : decode cX9_comesToHarm 136 = .ok (.ifCond .ne 7, 3) := by decide +kernel
theorem dX9_comesToHarm_139 : decode cX9_comesToHarm 139 = .ok (.iconst 1, 1) := by decide +kernel
theorem dX9_comesToHarm_140 : decode cX9_comesToHarm 140 = .ok (.goto 4, 3) := by decide +kernel
theorem dX9_comesToHarm_143 : decode cX9_comesToHarm 143 = .ok (.iconst 0, 1) := by decide +kernel
theorem dX9_comesToHarm_144 : decode cX9_comesToHarm 144 = .ok (.ireturn, 1) := by decide +kernel
theorem dX9_within_0 : decode cX9_within 0 = .ok (.iload_n 0, 1) := by decide +kernel
theorem dX9_within_1 : decode cX9_within 1 = .ok (.iload_n 1, 1) := by decide +kernel
theorem dX9_within_2 : decode cX9_within 2 = .ok (.if_icmp .lt 12, 3) := by decide +kernel
theorem dX9_within_5 : decode cX9_within 5 = .ok (.iload_n 0, 1) := by decide +kernel
theorem dX9_within_6 : decode cX9_within 6 = .ok (.iload_n 2, 1) := by decide +kernel
theorem dX9_within_7 : decode cX9_within 7 = .ok (.if_icmp .gt 7, 3) := by decide +kernel
theorem dX9_within_10 : decode cX9_within 10 = .ok (.iconst 1, 1) := by decide +kernel
theorem dX9_within_11 : decode cX9_within 11 = .ok (.goto 4, 3) := by decide +kernel
theorem dX9_within_14 : decode cX9_within 14 = .ok (.iconst 0, 1) := by decide +kernel
theorem dX9_within_15 : decode cX9_within 15 = .ok (.ireturn, 1) := by decide +kernel
theorem dX9_isGood_0 : decode cX9_isGood 0 = .ok (.iload_n 0, 1) := by decide +kernel
theorem dX9_isGood_1 : decode cX9_isGood 1 = .ok (.iconst 1, 1) := by decide +kernel
theorem dX9_isGood_2 : decode cX9_isGood 2 = .ok (.if_icmp .eq 8, 3) := by decide +kernel
theorem dX9_isGood_5 : decode cX9_isGood 5 = .ok (.iload_n 0, 1) := by decide +kernel
theorem dX9_isGood_6 : decode cX9_isGood 6 = .ok (.iconst 2, 1) := by decide +kernel
theorem dX9_isGood_7 : decode cX9_isGood 7 = .ok (.if_icmp .ne 7, 3) := by decide +kernel
theorem dX9_isGood_10 : decode cX9_isGood 10 = .ok (.iconst 1, 1) := by decide +kernel
theorem dX9_isGood_11 : decode cX9_isGood 11 = .ok (.goto 4, 3) := by decide +kernel
theorem dX9_isGood_14 : decode cX9_isGood 14 = .ok (.iconst 0, 1) := by decide +kernel
theorem dX9_isGood_15 : decode cX9_isGood 15 = .ok (.ireturn, 1) := by decide +kernel
theorem dX9_quotient_0 : decode cX9_quotient 0 = .ok (.iload_n 1, 1) := by decide +kernel
theorem dX9_quotient_1 : decode cX9_quotient 1 = .ok (.ifCond .ne 7, 3) := by decide +kernel
theorem dX9_quotient_4 : decode cX9_quotient 4 = .ok (.iconst 0, 1) := by decide +kernel
theorem dX9_quotient_5 : decode cX9_quotient 5 = .ok (.goto 6, 3) := by decide +kernel
theorem dX9_quotient_8 : decode cX9_quotient 8 = .ok (.iload_n 0, 1) := by decide +kernel
theorem dX9_quotient_9 : decode cX9_quotient 9 = .ok (.iload_n 1, 1) := by decide +kernel
theorem dX9_quotient_10 : decode cX9_quotient 10 = .ok (.idiv, 1) := by decide +kernel
theorem dX9_quotient_11 : decode cX9_quotient 11 = .ok (.ireturn, 1) := by decide +kernel
theorem dX9_at_0 : decode cX9_at 0 = .ok (.iload_n 1, 1) := by decide +kernel
theorem dX9_at_1 : decode cX9_at 1 = .ok (.ifCond .lt 15, 3) := by decide +kernel
theorem dX9_at_4 : decode cX9_at 4 = .ok (.iload_n 1, 1) := by decide +kernel
theorem dX9_at_5 : decode cX9_at 5 = .ok (.aload_n 0, 1) := by decide +kernel
theorem dX9_at_6 : decode cX9_at 6 = .ok (.arraylength, 1) := by decide +kernel
theorem dX9_at_7 : decode cX9_at 7 = .ok (.if_icmp .ge 9, 3) := by decide +kernel
theorem dX9_at_10 : decode cX9_at 10 = .ok (.aload_n 0, 1) := by decide +kernel
theorem dX9_at_11 : decode cX9_at 11 = .ok (.iload_n 1, 1) := by decide +kernel
theorem dX9_at_12 : decode cX9_at 12 = .ok (.iaload, 1) := by decide +kernel
theorem dX9_at_13 : decode cX9_at 13 = .ok (.goto 4, 3) := by decide +kernel
theorem dX9_at_16 : decode cX9_at 16 = .ok (.iconst 0, 1) := by decide +kernel
theorem dX9_at_17 : decode cX9_at 17 = .ok (.ireturn, 1) := by decide +kernel
theorem dX9_put_0 : decode cX9_put 0 = .ok (.iload_n 1, 1) := by decide +kernel
theorem dX9_put_1 : decode cX9_put 1 = .ok (.ifCond .lt 13, 3) := by decide +kernel
theorem dX9_put_4 : decode cX9_put 4 = .ok (.iload_n 1, 1) := by decide +kernel
theorem dX9_put_5 : decode cX9_put 5 = .ok (.aload_n 0, 1) := by decide +kernel
theorem dX9_put_6 : decode cX9_put 6 = .ok (.arraylength, 1) := by decide +kernel
theorem dX9_put_7 : decode cX9_put 7 = .ok (.if_icmp .ge 7, 3) := by decide +kernel
theorem dX9_put_10 : decode cX9_put 10 = .ok (.aload_n 0, 1) := by decide +kernel
theorem dX9_put_11 : decode cX9_put 11 = .ok (.iload_n 1, 1) := by decide +kernel
theorem dX9_put_12 : decode cX9_put 12 = .ok (.iload_n 2, 1) := by decide +kernel
theorem dX9_put_13 : decode cX9_put 13 = .ok (.iastore, 1) := by decide +kernel
theorem dX9_put_14 : decode cX9_put 14 = .ok (.return_, 1) := by decide +kernel
theorem dX9_sineOf_0 : decode cX9_sineOf 0 = .ok (.iload_n 0, 1) := by decide +kernel
theorem dX9_sineOf_1 : decode cX9_sineOf 1 = .ok (.invokestatic 356, 3) := by decide +kernel
theorem dX9_sineOf_4 : decode cX9_sineOf 4 = .ok (.i2l, 1) := by decide +kernel
theorem dX9_sineOf_5 : decode cX9_sineOf 5 = .ok (.lstore_n 1, 1) := by decide +kernel
theorem dX9_sineOf_6 : decode cX9_sineOf 6 = .ok (.lload_n 1, 1) := by decide +kernel
theorem dX9_sineOf_7 : decode cX9_sineOf 7 = .ok (.ldc2_w 359, 3) := by decide +kernel
theorem dX9_sineOf_10 : decode cX9_sineOf 10 = .ok (.lload_n 1, 1) := by decide +kernel
theorem dX9_sineOf_11 : decode cX9_sineOf 11 = .ok (.lsub, 1) := by decide +kernel
theorem dX9_sineOf_12 : decode cX9_sineOf 12 = .ok (.lmul, 1) := by decide +kernel
theorem dX9_sineOf_13 : decode cX9_sineOf 13 = .ok (.lstore_n 3, 1) := by decide +kernel
theorem dX9_sineOf_14 : decode cX9_sineOf 14 = .ok (.ldc2_w 361, 3) := by decide +kernel
theorem dX9_sineOf_17 : decode cX9_sineOf 17 = .ok (.lload_n 3, 1) := by decide +kernel
theorem dX9_sineOf_18 : decode cX9_sineOf 18 = .ok (.lsub, 1) := by decide +kernel
theorem dX9_sineOf_19 : decode cX9_sineOf 19 = .ok (.lstore 5, 2) := by decide +kernel
theorem dX9_sineOf_21 : decode cX9_sineOf 21 = .ok (.lload 5, 2) := by decide +kernel
theorem dX9_sineOf_23 : decode cX9_sineOf 23 = .ok (.lconst 0, 1) := by decide +kernel
theorem dX9_sineOf_24 : decode cX9_sineOf 24 = .ok (.lcmp, 1) := by decide +kernel
theorem dX9_sineOf_25 : decode cX9_sineOf 25 = .ok (.ifCond .ne 5, 3) := by decide +kernel
theorem dX9_sineOf_28 : decode cX9_sineOf 28 = .ok (.iconst 0, 1) := by decide +kernel
theorem dX9_sineOf_29 : decode cX9_sineOf 29 = .ok (.ireturn, 1) := by decide +kernel
theorem dX9_sineOf_30 : decode cX9_sineOf 30 = .ok (.ldc2_w 363, 3) := by decide +kernel
theorem dX9_sineOf_33 : decode cX9_sineOf 33 = .ok (.lload_n 3, 1) := by decide +kernel
theorem dX9_sineOf_34 : decode cX9_sineOf 34 = .ok (.lmul, 1) := by decide +kernel
theorem dX9_sineOf_35 : decode cX9_sineOf 35 = .ok (.lload 5, 2) := by decide +kernel
theorem dX9_sineOf_37 : decode cX9_sineOf 37 = .ok (.ldiv, 1) := by decide +kernel
theorem dX9_sineOf_38 : decode cX9_sineOf 38 = .ok (.l2i, 1) := by decide +kernel
theorem dX9_sineOf_39 : decode cX9_sineOf 39 = .ok (.istore 7, 2) := by decide +kernel
theorem dX9_sineOf_41 : decode cX9_sineOf 41 = .ok (.iload_n 0, 1) := by decide +kernel
theorem dX9_sineOf_42 : decode cX9_sineOf 42 = .ok (.ifCond .ge 9, 3) := by decide +kernel
theorem dX9_sineOf_45 : decode cX9_sineOf 45 = .ok (.iload 7, 2) := by decide +kernel
theorem dX9_sineOf_47 : decode cX9_sineOf 47 = .ok (.ineg, 1) := by decide +kernel
theorem dX9_sineOf_48 : decode cX9_sineOf 48 = .ok (.goto 5, 3) := by decide +kernel
theorem dX9_sineOf_51 : decode cX9_sineOf 51 = .ok (.iload 7, 2) := by decide +kernel
theorem dX9_sineOf_53 : decode cX9_sineOf 53 = .ok (.ireturn, 1) := by decide +kernel
theorem dX9_sizeOf_0 : decode cX9_sizeOf 0 = .ok (.iload_n 0, 1) := by decide +kernel
theorem dX9_sizeOf_1 : decode cX9_sizeOf 1 = .ok (.sipush (-1800), 3) := by decide +kernel
theorem dX9_sizeOf_4 : decode cX9_sizeOf 4 = .ok (.if_icmp .lt 10, 3) := by decide +kernel
theorem dX9_sizeOf_7 : decode cX9_sizeOf 7 = .ok (.iload_n 0, 1) := by decide +kernel
theorem dX9_sizeOf_8 : decode cX9_sizeOf 8 = .ok (.sipush 1800, 3) := by decide +kernel
theorem dX9_sizeOf_11 : decode cX9_sizeOf 11 = .ok (.if_icmp .le 7, 3) := by decide +kernel
theorem dX9_sizeOf_14 : decode cX9_sizeOf 14 = .ok (.sipush 1800, 3) := by decide +kernel
theorem dX9_sizeOf_17 : decode cX9_sizeOf 17 = .ok (.ireturn, 1) := by decide +kernel
theorem dX9_sizeOf_18 : decode cX9_sizeOf 18 = .ok (.iload_n 0, 1) := by decide +kernel
theorem dX9_sizeOf_19 : decode cX9_sizeOf 19 = .ok (.ifCond .ge 8, 3) := by decide +kernel
theorem dX9_sizeOf_22 : decode cX9_sizeOf 22 = .ok (.iload_n 0, 1) := by decide +kernel
theorem dX9_sizeOf_23 : decode cX9_sizeOf 23 = .ok (.ineg, 1) := by decide +kernel
theorem dX9_sizeOf_24 : decode cX9_sizeOf 24 = .ok (.goto 4, 3) := by decide +kernel
theorem dX9_sizeOf_27 : decode cX9_sizeOf 27 = .ok (.iload_n 0, 1) := by decide +kernel
theorem dX9_sizeOf_28 : decode cX9_sizeOf 28 = .ok (.ireturn, 1) := by decide +kernel
theorem dX10_init_0 : decode cX10_init 0 = .ok (.aload_n 0, 1) := by decide +kernel
theorem dX10_init_1 : decode cX10_init 1 = .ok (.invokespecial 1, 3) := by decide +kernel
theorem dX10_init_4 : decode cX10_init 4 = .ok (.aload_n 0, 1) := by decide +kernel
theorem dX10_init_5 : decode cX10_init 5 = .ok (.bipush 9, 2) := by decide +kernel
theorem dX10_init_7 : decode cX10_init 7 = .ok (.newarray .int, 2) := by decide +kernel
theorem dX10_init_9 : decode cX10_init 9 = .ok (.putfield 7, 3) := by decide +kernel
theorem dX10_init_12 : decode cX10_init 12 = .ok (.aload_n 0, 1) := by decide +kernel
theorem dX10_init_13 : decode cX10_init 13 = .ok (.bipush 24, 2) := by decide +kernel
theorem dX10_init_15 : decode cX10_init 15 = .ok (.newarray .int, 2) := by decide +kernel
theorem dX10_init_17 : decode cX10_init 17 = .ok (.putfield 13, 3) := by decide +kernel
theorem dX10_init_20 : decode cX10_init 20 = .ok (.aload_n 0, 1) := by decide +kernel
theorem dX10_init_21 : decode cX10_init 21 = .ok (.bipush 24, 2) := by decide +kernel
theorem dX10_init_23 : decode cX10_init 23 = .ok (.newarray .boolean, 2) := by decide +kernel
theorem dX10_init_25 : decode cX10_init 25 = .ok (.putfield 16, 3) := by decide +kernel
theorem dX10_init_28 : decode cX10_init 28 = .ok (.aload_n 0, 1) := by decide +kernel
theorem dX10_init_29 : decode cX10_init 29 = .ok (.bipush 12, 2) := by decide +kernel
theorem dX10_init_31 : decode cX10_init 31 = .ok (.newarray .int, 2) := by decide +kernel
theorem dX10_init_33 : decode cX10_init 33 = .ok (.putfield 20, 3) := by decide +kernel
theorem dX10_init_36 : decode cX10_init 36 = .ok (.aload_n 0, 1) := by decide +kernel
theorem dX10_init_37 : decode cX10_init 37 = .ok (.bipush 40, 2) := by decide +kernel
theorem dX10_init_39 : decode cX10_init 39 = .ok (.newarray .int, 2) := by decide +kernel
theorem dX10_init_41 : decode cX10_init 41 = .ok (.putfield 23, 3) := by decide +kernel
theorem dX10_init_44 : decode cX10_init 44 = .ok (.aload_n 0, 1) := by decide +kernel
theorem dX10_init_45 : decode cX10_init 45 = .ok (.iconst 5, 1) := by decide +kernel
theorem dX10_init_46 : decode cX10_init 46 = .ok (.newarray .int, 2) := by decide +kernel
theorem dX10_init_48 : decode cX10_init 48 = .ok (.putfield 26, 3) := by decide +kernel
theorem dX10_init_51 : decode cX10_init 51 = .ok (.aload_n 0, 1) := by decide +kernel
theorem dX10_init_52 : decode cX10_init 52 = .ok (.sipush 300, 3) := by decide +kernel
theorem dX10_init_55 : decode cX10_init 55 = .ok (.newarray .int, 2) := by decide +kernel
theorem dX10_init_57 : decode cX10_init 57 = .ok (.putfield 29, 3) := by decide +kernel
theorem dX10_init_60 : decode cX10_init 60 = .ok (.aload_n 0, 1) := by decide +kernel
theorem dX10_init_61 : decode cX10_init 61 = .ok (.iconst (-1), 1) := by decide +kernel
theorem dX10_init_62 : decode cX10_init 62 = .ok (.putfield 32, 3) := by decide +kernel
theorem dX10_init_65 : decode cX10_init 65 = .ok (.aload_n 0, 1) := by decide +kernel
theorem dX10_init_66 : decode cX10_init 66 = .ok (.bipush 9, 2) := by decide +kernel
theorem dX10_init_68 : decode cX10_init 68 = .ok (.newarray .int, 2) := by decide +kernel
theorem dX10_init_70 : decode cX10_init 70 = .ok (.putfield 36, 3) := by decide +kernel
theorem dX10_init_73 : decode cX10_init 73 = .ok (.aload_n 0, 1) := by decide +kernel
theorem dX10_init_74 : decode cX10_init 74 = .ok (.bipush 24, 2) := by decide +kernel
theorem dX10_init_76 : decode cX10_init 76 = .ok (.newarray .int, 2) := by decide +kernel
theorem dX10_init_78 : decode cX10_init 78 = .ok (.putfield 39, 3) := by decide +kernel
theorem dX10_init_81 : decode cX10_init 81 = .ok (.aload_n 0, 1) := by decide +kernel
theorem dX10_init_82 : decode cX10_init 82 = .ok (.bipush 24, 2) := by decide +kernel
theorem dX10_init_84 : decode cX10_init 84 = .ok (.newarray .boolean, 2) := by decide +kernel
theorem dX10_init_86 : decode cX10_init 86 = .ok (.putfield 42, 3) := by decide +kernel
theorem dX10_init_89 : decode cX10_init 89 = .ok (.aload_n 0, 1) := by decide +kernel
theorem dX10_init_90 : decode cX10_init 90 = .ok (.bipush 12, 2) := by decide +kernel
theorem dX10_init_92 : decode cX10_init 92 = .ok (.newarray .int, 2) := by decide +kernel
theorem dX10_init_94 : decode cX10_init 94 = .ok (.putfield 45, 3) := by decide +kernel
theorem dX10_init_97 : decode cX10_init 97 = .ok (.aload_n 0, 1) := by decide +kernel
theorem dX10_init_98 : decode cX10_init 98 = .ok (.sipush 201, 3) := by decide +kernel
theorem dX10_init_101 : decode cX10_init 101 = .ok (.newarray .int, 2) := by decide +kernel
theorem dX10_init_103 : decode cX10_init 103 = .ok (.putfield 48, 3) := by decide +kernel
theorem dX10_init_106 : decode cX10_init 106 = .ok (.aload_n 0, 1) := by decide +kernel
theorem dX10_init_107 : decode cX10_init 107 = .ok (.sipush 201, 3) := by decide +kernel
theorem dX10_init_110 : decode cX10_init 110 = .ok (.newarray .int, 2) := by decide +kernel
theorem dX10_init_112 : decode cX10_init 112 = .ok (.putfield 51, 3) := by decide +kernel
theorem dX10_init_115 : decode cX10_init 115 = .ok (.aload_n 0, 1) := by decide +kernel
theorem dX10_init_116 : decode cX10_init 116 = .ok (.sipush 201, 3) := by decide +kernel
theorem dX10_init_119 : decode cX10_init 119 = .ok (.newarray .int, 2) := by decide +kernel
theorem dX10_init_121 : decode cX10_init 121 = .ok (.putfield 54, 3) := by decide +kernel
theorem dX10_init_124 : decode cX10_init 124 = .ok (.aload_n 0, 1) := by decide +kernel
theorem dX10_init_125 : decode cX10_init 125 = .ok (.sipush 201, 3) := by decide +kernel
theorem dX10_init_128 : decode cX10_init 128 = .ok (.newarray .int, 2) := by decide +kernel
theorem dX10_init_130 : decode cX10_init 130 = .ok (.putfield 57, 3) := by decide +kernel
theorem dX10_init_133 : decode cX10_init 133 = .ok (.aload_n 0, 1) := by decide +kernel
theorem dX10_init_134 : decode cX10_init 134 = .ok (.bipush 8, 2) := by decide +kernel
theorem dX10_init_136 : decode cX10_init 136 = .ok (.newarray .int, 2) := by decide +kernel
theorem dX10_init_138 : decode cX10_init 138 = .ok (.putfield 60, 3) := by decide +kernel
theorem dX10_init_141 : decode cX10_init 141 = .ok (.aload_n 0, 1) := by decide +kernel
theorem dX10_init_142 : decode cX10_init 142 = .ok (.bipush 9, 2) := by decide +kernel
theorem dX10_init_144 : decode cX10_init 144 = .ok (.newarray .int, 2) := by decide +kernel
theorem dX10_init_146 : decode cX10_init 146 = .ok (.putfield 63, 3) := by decide +kernel
theorem dX10_init_149 : decode cX10_init 149 = .ok (.aload_n 0, 1) := by decide +kernel
theorem dX10_init_150 : decode cX10_init 150 = .ok (.bipush 40, 2) := by decide +kernel
theorem dX10_init_152 : decode cX10_init 152 = .ok (.newarray .int, 2) := by decide +kernel
theorem dX10_init_154 : decode cX10_init 154 = .ok (.putfield 66, 3) := by decide +kernel
theorem dX10_init_157 : decode cX10_init 157 = .ok (.aload_n 0, 1) := by decide +kernel
theorem dX10_init_158 : decode cX10_init 158 = .ok (.iconst 2, 1) := by decide +kernel
theorem dX10_init_159 : decode cX10_init 159 = .ok (.newarray .boolean, 2) := by decide +kernel
theorem dX10_init_161 : decode cX10_init 161 = .ok (.putfield 69, 3) := by decide +kernel
theorem dX10_init_164 : decode cX10_init 164 = .ok (.aload_n 0, 1) := by decide +kernel
theorem dX10_init_165 : decode cX10_init 165 = .ok (.invokevirtual 72, 3) := by decide +kernel
theorem dX10_init_168 : decode cX10_init 168 = .ok (.aload_n 0, 1) := by decide +kernel
theorem dX10_init_169 : decode cX10_init 169 = .ok (.invokevirtual 75, 3) := by decide +kernel
theorem dX10_init_172 : decode cX10_init 172 = .ok (.return_, 1) := by decide +kernel
theorem dX10_in_0 : decode cX10_in 0 = .ok (.lload_n 0, 1) := by decide +kernel
theorem dX10_in_1 : decode cX10_in 1 = .ok (.lload_n 2, 1) := by decide +kernel
theorem dX10_in_2 : decode cX10_in 2 = .ok (.lcmp, 1) := by decide +kernel
theorem dX10_in_3 : decode cX10_in 3 = .ok (.ifCond .lt 14, 3) := by decide +kernel
theorem dX10_in_6 : decode cX10_in 6 = .ok (.lload_n 0, 1) := by decide +kernel
theorem dX10_in_7 : decode cX10_in 7 = .ok (.lload 4, 2) := by decide +kernel
theorem dX10_in_9 : decode cX10_in 9 = .ok (.lcmp, 1) := by decide +kernel
theorem dX10_in_10 : decode cX10_in 10 = .ok (.ifCond .gt 7, 3) := by decide +kernel
theorem dX10_in_13 : decode cX10_in 13 = .ok (.iconst 1, 1) := by decide +kernel
theorem dX10_in_14 : decode cX10_in 14 = .ok (.goto 4, 3) := by decide +kernel
theorem dX10_in_17 : decode cX10_in 17 = .ok (.iconst 0, 1) := by decide +kernel
theorem dX10_in_18 : decode cX10_in 18 = .ok (.ireturn, 1) := by decide +kernel
theorem dX10_isSwinger_0 : decode cX10_isSwinger 0 = .ok (.iload_n 1, 1) := by decide +kernel
theorem dX10_isSwinger_1 : decode cX10_isSwinger 1 = .ok (.i2l, 1) := by decide +kernel
theorem dX10_isSwinger_2 : decode cX10_isSwinger 2 = .ok (.lconst 0, 1) := by decide +kernel
theorem dX10_isSwinger_3 : decode cX10_isSwinger 3 = .ok (.aload_n 0, 1) := by decide +kernel
theorem dX10_isSwinger_4 : decode cX10_isSwinger 4 = .ok (.getfield 78, 3) := by decide +kernel
theorem dX10_isSwinger_7 : decode cX10_isSwinger 7 = .ok (.iconst 1, 1) := by decide +kernel
theorem dX10_isSwinger_8 : decode cX10_isSwinger 8 = .ok (.isub, 1) := by decide +kernel
theorem dX10_isSwinger_9 : decode cX10_isSwinger 9 = .ok (.i2l, 1) := by decide +kernel
theorem dX10_isSwinger_10 : decode cX10_isSwinger 10 = .ok (.invokestatic 81, 3) := by decide +kernel
theorem dX10_isSwinger_13 : decode cX10_isSwinger 13 = .ok (.ireturn, 1) := by decide +kernel
theorem dX10_feed_0 : decode cX10_feed 0 = .ok (.iload_n 1, 1) := by decide +kernel
theorem dX10_feed_1 : decode cX10_feed 1 = .ok (.i2l, 1) := by decide +kernel
theorem dX10_feed_2 : decode cX10_feed 2 = .ok (.lconst 1, 1) := by decide +kernel
theorem dX10_feed_3 : decode cX10_feed 3 = .ok (.ldc2_w 85, 3) := by decide +kernel
theorem dX10_feed_6 : decode cX10_feed 6 = .ok (.invokestatic 81, 3) := by decide +kernel
theorem dX10_feed_9 : decode cX10_feed 9 = .ok (.ifCond .ne 6, 3) := by decide +kernel
theorem dX10_feed_12 : decode cX10_feed 12 = .ok (.ldc 87, 2) := by decide +kernel
theorem dX10_feed_14 : decode cX10_feed 14 = .ok (.ireturn, 1) := by decide +kernel
theorem dX10_feed_15 : decode cX10_feed 15 = .ok (.aload_n 0, 1) := by decide +kernel
theorem dX10_feed_16 : decode cX10_feed 16 = .ok (.getfield 88, 3) := by decide +kernel
theorem dX10_feed_19 : decode cX10_feed 19 = .ok (.iload_n 1, 1) := by decide +kernel
theorem dX10_feed_20 : decode cX10_feed 20 = .ok (.iadd, 1) := by decide +kernel
theorem dX10_feed_21 : decode cX10_feed 21 = .ok (.sipush 300, 3) := by decide +kernel
theorem dX10_feed_24 : decode cX10_feed 24 = .ok (.if_icmp .le 6, 3) := by decide +kernel
theorem dX10_feed_27 : decode cX10_feed 27 = .ok (.ldc 91, 2) := by decide +kernel
theorem dX10_feed_29 : decode cX10_feed 29 = .ok (.ireturn, 1) := by decide +kernel
theorem dX10_feed_30 : decode cX10_feed 30 = .ok (.iload_n 1, 1) := by decide +kernel
theorem dX10_feed_31 : decode cX10_feed 31 = .ok (.iconst 1, 1) := by decide +kernel
theorem dX10_feed_32 : decode cX10_feed 32 = .ok (.isub, 1) := by decide +kernel
theorem dX10_feed_33 : decode cX10_feed 33 = .ok (.istore 4, 2) := by decide +kernel
theorem dX10_feed_35 : decode cX10_feed 35 = .ok (.iload 4, 2) := by decide +kernel
theorem dX10_feed_37 : decode cX10_feed 37 = .ok (.ifCond .lt 40, 3) := by decide +kernel
theorem dX10_feed_40 : decode cX10_feed 40 = .ok (.aload_n 0, 1) := by decide +kernel
theorem dX10_feed_41 : decode cX10_feed 41 = .ok (.getfield 29, 3) := by decide +kernel
theorem dX10_feed_44 : decode cX10_feed 44 = .ok (.aload_n 0, 1) := by decide +kernel
theorem dX10_feed_45 : decode cX10_feed 45 = .ok (.getfield 88, 3) := by decide +kernel
theorem dX10_feed_48 : decode cX10_feed 48 = .ok (.lload_n 2, 1) := by decide +kernel
theorem dX10_feed_49 : decode cX10_feed 49 = .ok (.bipush 8, 2) := by decide +kernel
theorem dX10_feed_51 : decode cX10_feed 51 = .ok (.iload 4, 2) := by decide +kernel
theorem dX10_feed_53 : decode cX10_feed 53 = .ok (.imul, 1) := by decide +kernel
theorem dX10_feed_54 : decode cX10_feed 54 = .ok (.lshr, 1) := by decide +kernel
theorem dX10_feed_55 : decode cX10_feed 55 = .ok (.ldc2_w 92, 3) := by decide +kernel
theorem dX10_feed_58 : decode cX10_feed 58 = .ok (.land, 1) := by decide +kernel
theorem dX10_feed_59 : decode cX10_feed 59 = .ok (.l2i, 1) := by decide +kernel
theorem dX10_feed_60 : decode cX10_feed 60 = .ok (.iastore, 1) := by decide +kernel
theorem dX10_feed_61 : decode cX10_feed 61 = .ok (.aload_n 0, 1) := by decide +kernel
theorem dX10_feed_62 : decode cX10_feed 62 = .ok (.dup, 1) := by decide +kernel
theorem dX10_feed_63 : decode cX10_feed 63 = .ok (.getfield 88, 3) := by decide +kernel
theorem dX10_feed_66 : decode cX10_feed 66 = .ok (.iconst 1, 1) := by decide +kernel
theorem dX10_feed_67 : decode cX10_feed 67 = .ok (.iadd, 1) := by decide +kernel
theorem dX10_feed_68 : decode cX10_feed 68 = .ok (.putfield 88, 3) := by decide +kernel
theorem dX10_feed_71 : decode cX10_feed 71 = .ok (.iinc 4 (-1), 3) := by decide +kernel
theorem dX10_feed_74 : decode cX10_feed 74 = .ok (.goto (-39), 3) := by decide +kernel
theorem dX10_feed_77 : decode cX10_feed 77 = .ok (.aload_n 0, 1) := by decide +kernel
theorem dX10_feed_78 : decode cX10_feed 78 = .ok (.getfield 88, 3) := by decide +kernel
theorem dX10_feed_81 : decode cX10_feed 81 = .ok (.ireturn, 1) := by decide +kernel
theorem dX10_here_0 : decode cX10_here 0 = .ok (.aload_n 0, 1) := by decide +kernel
theorem dX10_here_1 : decode cX10_here 1 = .ok (.getfield 94, 3) := by decide +kernel
theorem dX10_here_4 : decode cX10_here 4 = .ok (.aload_n 0, 1) := by decide +kernel
theorem dX10_here_5 : decode cX10_here 5 = .ok (.getfield 88, 3) := by decide +kernel
theorem dX10_here_8 : decode cX10_here 8 = .ok (.if_icmp .ge 30, 3) := by decide +kernel
theorem dX10_here_11 : decode cX10_here 11 = .ok (.aload_n 0, 1) := by decide +kernel
theorem dX10_here_12 : decode cX10_here 12 = .ok (.getfield 29, 3) := by decide +kernel
theorem dX10_here_15 : decode cX10_here 15 = .ok (.aload_n 0, 1) := by decide +kernel
theorem dX10_here_16 : decode cX10_here 16 = .ok (.getfield 94, 3) := by decide +kernel
theorem dX10_here_19 : decode cX10_here 19 = .ok (.iaload, 1) := by decide +kernel
theorem dX10_here_20 : decode cX10_here 20 = .ok (.bipush 32, 2) := by decide +kernel
theorem dX10_here_22 : decode cX10_here 22 = .ok (.if_icmp .ne 16, 3) := by decide +kernel
theorem dX10_here_25 : decode cX10_here 25 = .ok (.aload_n 0, 1) := by decide +kernel
theorem dX10_here_26 : decode cX10_here 26 = .ok (.dup, 1) := by decide +kernel
theorem dX10_here_27 : decode cX10_here 27 = .ok (.getfield 94, 3) := by decide +kernel
theorem dX10_here_30 : decode cX10_here 30 = .ok (.iconst 1, 1) := by decide +kernel
theorem dX10_here_31 : decode cX10_here 31 = .ok (.iadd, 1) := by decide +kernel
theorem dX10_here_32 : decode cX10_here 32 = .ok (.putfield 94, 3) := by decide +kernel
theorem dX10_here_35 : decode cX10_here 35 = .ok (.goto (-35), 3) := by decide +kernel
theorem dX10_here_38 : decode cX10_here 38 = .ok (.aload_n 0, 1) := by decide +kernel
theorem dX10_here_39 : decode cX10_here 39 = .ok (.getfield 94, 3) := by decide +kernel
theorem dX10_here_42 : decode cX10_here 42 = .ok (.aload_n 0, 1) := by decide +kernel
theorem dX10_here_43 : decode cX10_here 43 = .ok (.getfield 88, 3) := by decide +kernel
theorem dX10_here_46 : decode cX10_here 46 = .ok (.if_icmp .ge 15, 3) := by decide +kernel
theorem dX10_here_49 : decode cX10_here 49 = .ok (.aload_n 0, 1) := by decide +kernel
theorem dX10_here_50 : decode cX10_here 50 = .ok (.getfield 29, 3) := by decide +kernel
theorem dX10_here_53 : decode cX10_here 53 = .ok (.aload_n 0, 1) := by decide +kernel
theorem dX10_here_54 : decode cX10_here 54 = .ok (.getfield 94, 3) := by decide +kernel
theorem dX10_here_57 : decode cX10_here 57 = .ok (.iaload, 1) := by decide +kernel
theorem dX10_here_58 : decode cX10_here 58 = .ok (.goto 4, 3) := by decide +kernel
theorem dX10_here_61 : decode cX10_here 61 = .ok (.iconst (-1), 1) := by decide +kernel
theorem dX10_here_62 : decode cX10_here 62 = .ok (.ireturn, 1) := by decide +kernel
theorem dX10_fails_0 : decode cX10_fails 0 = .ok (.aload_n 0, 1) := by decide +kernel
theorem dX10_fails_1 : decode cX10_fails 1 = .ok (.iload_n 2, 1) := by decide +kernel
theorem dX10_fails_2 : decode cX10_fails 2 = .ok (.putfield 32, 3) := by decide +kernel
theorem dX10_fails_5 : decode cX10_fails 5 = .ok (.iload_n 1, 1) := by decide +kernel
theorem dX10_fails_6 : decode cX10_fails 6 = .ok (.ireturn, 1) := by decide +kernel
theorem dX10_readWord_0 : decode cX10_readWord 0 = .ok (.aload_n 0, 1) := by decide +kernel
theorem dX10_readWord_1 : decode cX10_readWord 1 = .ok (.invokevirtual 97, 3) := by decide +kernel
theorem dX10_readWord_4 : decode cX10_readWord 4 = .ok (.istore_n 1, 1) := by decide +kernel
theorem dX10_readWord_5 : decode cX10_readWord 5 = .ok (.aload_n 0, 1) := by decide +kernel
theorem dX10_readWord_6 : decode cX10_readWord 6 = .ok (.lconst 0, 1) := by decide +kernel
theorem dX10_readWord_7 : decode cX10_readWord 7 = .ok (.putfield 101, 3) := by decide +kernel
theorem dX10_readWord_10 : decode cX10_readWord 10 = .ok (.aload_n 0, 1) := by decide +kernel
theorem dX10_readWord_11 : decode cX10_readWord 11 = .ok (.aload_n 0, 1) := by decide +kernel
theorem dX10_readWord_12 : decode cX10_readWord 12 = .ok (.getfield 94, 3) := by decide +kernel
theorem dX10_readWord_15 : decode cX10_readWord 15 = .ok (.putfield 105, 3) := by decide +kernel
theorem dX10_readWord_18 : decode cX10_readWord 18 = .ok (.aload_n 0, 1) := by decide +kernel
theorem dX10_readWord_19 : decode cX10_readWord 19 = .ok (.getfield 105, 3) := by decide +kernel
theorem dX10_readWord_22 : decode cX10_readWord 22 = .ok (.aload_n 0, 1) := by decide +kernel
theorem dX10_readWord_23 : decode cX10_readWord 23 = .ok (.getfield 88, 3) := by decide +kernel
theorem dX10_readWord_26 : decode cX10_readWord 26 = .ok (.if_icmp .ge 82, 3) := by decide +kernel
theorem dX10_readWord_29 : decode cX10_readWord 29 = .ok (.aload_n 0, 1) := by decide +kernel
theorem dX10_readWord_30 : decode cX10_readWord 30 = .ok (.getfield 29, 3) := by decide +kernel
theorem dX10_readWord_33 : decode cX10_readWord 33 = .ok (.aload_n 0, 1) := by decide +kernel
theorem dX10_readWord_34 : decode cX10_readWord 34 = .ok (.getfield 105, 3) := by decide +kernel
theorem dX10_readWord_37 : decode cX10_readWord 37 = .ok (.iaload, 1) := by decide +kernel
theorem dX10_readWord_38 : decode cX10_readWord 38 = .ok (.i2l, 1) := by decide +kernel
theorem dX10_readWord_39 : decode cX10_readWord 39 = .ok (.ldc2_w 108, 3) := by decide +kernel
theorem dX10_readWord_42 : decode cX10_readWord 42 = .ok (.ldc2_w 110, 3) := by decide +kernel
theorem dX10_readWord_45 : decode cX10_readWord 45 = .ok (.invokestatic 81, 3) := by decide +kernel
theorem dX10_readWord_48 : decode cX10_readWord 48 = .ok (.ifCond .eq 60, 3) := by decide +kernel
theorem dX10_readWord_51 : decode cX10_readWord 51 = .ok (.aload_n 0, 1) := by decide +kernel
theorem dX10_readWord_52 : decode cX10_readWord 52 = .ok (.aload_n 0, 1) := by decide +kernel
theorem dX10_readWord_53 : decode cX10_readWord 53 = .ok (.getfield 101, 3) := by decide +kernel
theorem dX10_readWord_56 : decode cX10_readWord 56 = .ok (.ldc2_w 112, 3) := by decide +kernel
theorem dX10_readWord_59 : decode cX10_readWord 59 = .ok (.lcmp, 1) := by decide +kernel
theorem dX10_readWord_60 : decode cX10_readWord 60 = .ok (.ifCond .le 9, 3) := by decide +kernel
theorem dX10_readWord_63 : decode cX10_readWord 63 = .ok (.ldc2_w 114, 3) := by decide +kernel
theorem dX10_readWord_66 : decode cX10_readWord 66 = .ok (.goto 26, 3) := by decide +kernel
theorem dX10_readWord_69 : decode cX10_readWord 69 = .ok (.ldc2_w 116, 3) := by decide +kernel
theorem dX10_readWord_72 : decode cX10_readWord 72 = .ok (.aload_n 0, 1) := by decide +kernel
theorem dX10_readWord_73 : decode cX10_readWord 73 = .ok (.getfield 101, 3) := by decide +kernel
theorem dX10_readWord_76 : decode cX10_readWord 76 = .ok (.lmul, 1) := by decide +kernel
theorem dX10_readWord_77 : decode cX10_readWord 77 = .ok (.aload_n 0, 1) := by decide +kernel
theorem dX10_readWord_78 : decode cX10_readWord 78 = .ok (.getfield 29, 3) := by decide +kernel
theorem dX10_readWord_81 : decode cX10_readWord 81 = .ok (.aload_n 0, 1) := by decide +kernel
theorem dX10_readWord_82 : decode cX10_readWord 82 = .ok (.getfield 105, 3) := by decide +kernel
theorem dX10_readWord_85 : decode cX10_readWord 85 = .ok (.iaload, 1) := by decide +kernel
theorem dX10_readWord_86 : decode cX10_readWord 86 = .ok (.i2l, 1) := by decide +kernel
theorem dX10_readWord_87 : decode cX10_readWord 87 = .ok (.ladd, 1) := by decide +kernel
theorem dX10_readWord_88 : decode cX10_readWord 88 = .ok (.ldc2_w 118, 3) := by decide +kernel
theorem dX10_readWord_91 : decode cX10_readWord 91 = .ok (.lsub, 1) := by decide +kernel
theorem dX10_readWord_92 : decode cX10_readWord 92 = .ok (.putfield 101, 3) := by decide +kernel
theorem dX10_readWord_95 : decode cX10_readWord 95 = .ok (.aload_n 0, 1) := by decide +kernel
theorem dX10_readWord_96 : decode cX10_readWord 96 = .ok (.dup, 1) := by decide +kernel
theorem dX10_readWord_97 : decode cX10_readWord 97 = .ok (.getfield 105, 3) := by decide +kernel
theorem dX10_readWord_100 : decode cX10_readWord 100 = .ok (.iconst 1, 1) := by decide +kernel
theorem dX10_readWord_101 : decode cX10_readWord 101 = .ok (.iadd, 1) := by decide +kernel
theorem dX10_readWord_102 : decode cX10_readWord 102 = .ok (.putfield 105, 3) := by decide +kernel
theorem dX10_readWord_105 : decode cX10_readWord 105 = .ok (.goto (-87), 3) := by decide +kernel
theorem dX10_readWord_108 : decode cX10_readWord 108 = .ok (.return_, 1) := by decide +kernel
theorem dX10_code_0 : decode cX10_code 0 = .ok (.ldc2_w 116, 3) := by decide +kernel
theorem dX10_code_3 : decode cX10_code 3 = .ok (.ldc2_w 116, 3) := by decide +kernel
theorem dX10_code_6 : decode cX10_code 6 = .ok (.ldc2_w 116, 3) := by decide +kernel
theorem dX10_code_9 : decode cX10_code 9 = .ok (.iload_n 0, 1) := by decide +kernel
theorem dX10_code_10 : decode cX10_code 10 = .ok (.i2l, 1) := by decide +kernel
theorem dX10_code_11 : decode cX10_code 11 = .ok (.ldc2_w 118, 3) := by decide +kernel
theorem dX10_code_14 : decode cX10_code 14 = .ok (.lsub, 1) := by decide +kernel
theorem dX10_code_15 : decode cX10_code 15 = .ok (.lmul, 1) := by decide +kernel
theorem dX10_code_16 : decode cX10_code 16 = .ok (.iload_n 1, 1) := by decide +kernel
theorem dX10_code_17 : decode cX10_code 17 = .ok (.i2l, 1) := by decide +kernel
theorem dX10_code_18 : decode cX10_code 18 = .ok (.ladd, 1) := by decide +kernel
theorem dX10_code_19 : decode cX10_code 19 = .ok (.ldc2_w 118, 3) := by decide +kernel
theorem dX10_code_22 : decode cX10_code 22 = .ok (.lsub, 1) := by decide +kernel
theorem dX10_code_23 : decode cX10_code 23 = .ok (.lmul, 1) := by decide +kernel
theorem dX10_code_24 : decode cX10_code 24 = .ok (.iload_n 2, 1) := by decide +kernel
theorem dX10_code_25 : decode cX10_code 25 = .ok (.i2l, 1) := by decide +kernel
theorem dX10_code_26 : decode cX10_code 26 = .ok (.ladd, 1) := by decide +kernel
theorem dX10_code_27 : decode cX10_code 27 = .ok (.ldc2_w 118, 3) := by decide +kernel
theorem dX10_code_30 : decode cX10_code 30 = .ok (.lsub, 1) := by decide +kernel
theorem dX10_code_31 : decode cX10_code 31 = .ok (.lmul, 1) := by decide +kernel
theorem dX10_code_32 : decode cX10_code 32 = .ok (.iload_n 3, 1) := by decide +kernel
theorem dX10_code_33 : decode cX10_code 33 = .ok (.i2l, 1) := by decide +kernel
theorem dX10_code_34 : decode cX10_code 34 = .ok (.ladd, 1) := by decide +kernel
theorem dX10_code_35 : decode cX10_code 35 = .ok (.ldc2_w 118, 3) := by decide +kernel
theorem dX10_code_38 : decode cX10_code 38 = .ok (.lsub, 1) := by decide +kernel
theorem dX10_code_39 : decode cX10_code 39 = .ok (.lreturn, 1) := by decide +kernel
theorem dX10_longer_0 : decode cX10_longer 0 = .ok (.ldc2_w 116, 3) := by decide +kernel
theorem dX10_longer_3 : decode cX10_longer 3 = .ok (.lload_n 0, 1) := by decide +kernel
theorem dX10_longer_4 : decode cX10_longer 4 = .ok (.lmul, 1) := by decide +kernel
theorem dX10_longer_5 : decode cX10_longer 5 = .ok (.iload_n 2, 1) := by decide +kernel
theorem dX10_longer_6 : decode cX10_longer 6 = .ok (.i2l, 1) := by decide +kernel
theorem dX10_longer_7 : decode cX10_longer 7 = .ok (.ladd, 1) := by decide +kernel
theorem dX10_longer_8 : decode cX10_longer 8 = .ok (.ldc2_w 118, 3) := by decide +kernel
theorem dX10_longer_11 : decode cX10_longer 11 = .ok (.lsub, 1) := by decide +kernel
theorem dX10_longer_12 : decode cX10_longer 12 = .ok (.lreturn, 1) := by decide +kernel
theorem dX10_takeNumber_0 : decode cX10_takeNumber 0 = .ok (.aload_n 0, 1) := by decide +kernel
theorem dX10_takeNumber_1 : decode cX10_takeNumber 1 = .ok (.invokevirtual 97, 3) := by decide +kernel
theorem dX10_takeNumber_4 : decode cX10_takeNumber 4 = .ok (.istore_n 3, 1) := by decide +kernel
theorem dX10_takeNumber_5 : decode cX10_takeNumber 5 = .ok (.iload_n 3, 1) := by decide +kernel
theorem dX10_takeNumber_6 : decode cX10_takeNumber 6 = .ok (.i2l, 1) := by decide +kernel
theorem dX10_takeNumber_7 : decode cX10_takeNumber 7 = .ok (.ldc2_w 120, 3) := by decide +kernel
theorem dX10_takeNumber_10 : decode cX10_takeNumber 10 = .ok (.ldc2_w 122, 3) := by decide +kernel
theorem dX10_takeNumber_13 : decode cX10_takeNumber 13 = .ok (.invokestatic 81, 3) := by decide +kernel
theorem dX10_takeNumber_16 : decode cX10_takeNumber 16 = .ok (.ifCond .ne 13, 3) := by decide +kernel
theorem dX10_takeNumber_19 : decode cX10_takeNumber 19 = .ok (.aload_n 0, 1) := by decide +kernel
theorem dX10_takeNumber_20 : decode cX10_takeNumber 20 = .ok (.iconst 1, 1) := by decide +kernel
theorem dX10_takeNumber_21 : decode cX10_takeNumber 21 = .ok (.aload_n 0, 1) := by decide +kernel
theorem dX10_takeNumber_22 : decode cX10_takeNumber 22 = .ok (.getfield 94, 3) := by decide +kernel
theorem dX10_takeNumber_25 : decode cX10_takeNumber 25 = .ok (.invokevirtual 124, 3) := by decide +kernel
theorem dX10_takeNumber_28 : decode cX10_takeNumber 28 = .ok (.ireturn, 1) := by decide +kernel
theorem dX10_takeNumber_29 : decode cX10_takeNumber 29 = .ok (.aload_n 0, 1) := by decide +kernel
theorem dX10_takeNumber_30 : decode cX10_takeNumber 30 = .ok (.aload_n 0, 1) := by decide +kernel
theorem dX10_takeNumber_31 : decode cX10_takeNumber 31 = .ok (.getfield 94, 3) := by decide +kernel
theorem dX10_takeNumber_34 : decode cX10_takeNumber 34 = .ok (.putfield 128, 3) := by decide +kernel
theorem dX10_takeNumber_37 : decode cX10_takeNumber 37 = .ok (.aload_n 0, 1) := by decide +kernel
theorem dX10_takeNumber_38 : decode cX10_takeNumber 38 = .ok (.iconst 0, 1) := by decide +kernel
theorem dX10_takeNumber_39 : decode cX10_takeNumber 39 = .ok (.putfield 131, 3) := by decide +kernel
theorem dX10_takeNumber_42 : decode cX10_takeNumber 42 = .ok (.aload_n 0, 1) := by decide +kernel
theorem dX10_takeNumber_43 : decode cX10_takeNumber 43 = .ok (.getfield 94, 3) := by decide +kernel
theorem dX10_takeNumber_46 : decode cX10_takeNumber 46 = .ok (.aload_n 0, 1) := by decide +kernel
theorem dX10_takeNumber_47 : decode cX10_takeNumber 47 = .ok (.getfield 88, 3) := by decide +kernel
theorem dX10_takeNumber_50 : decode cX10_takeNumber 50 = .ok (.if_icmp .ge 79, 3) := by decide +kernel
theorem dX10_takeNumber_53 : decode cX10_takeNumber 53 = .ok (.aload_n 0, 1) := by decide +kernel
theorem dX10_takeNumber_54 : decode cX10_takeNumber 54 = .ok (.getfield 29, 3) := by decide +kernel
theorem dX10_takeNumber_57 : decode cX10_takeNumber 57 = .ok (.aload_n 0, 1) := by decide +kernel
theorem dX10_takeNumber_58 : decode cX10_takeNumber 58 = .ok (.getfield 94, 3) := by decide +kernel
theorem dX10_takeNumber_61 : decode cX10_takeNumber 61 = .ok (.iaload, 1) := by decide +kernel
theorem dX10_takeNumber_62 : decode cX10_takeNumber 62 = .ok (.i2l, 1) := by decide +kernel
theorem dX10_takeNumber_63 : decode cX10_takeNumber 63 = .ok (.ldc2_w 120, 3) := by decide +kernel
theorem dX10_takeNumber_66 : decode cX10_takeNumber 66 = .ok (.ldc2_w 122, 3) := by decide +kernel
theorem dX10_takeNumber_69 : decode cX10_takeNumber 69 = .ok (.invokestatic 81, 3) := by decide +kernel
theorem dX10_takeNumber_72 : decode cX10_takeNumber 72 = .ok (.ifCond .eq 57, 3) := by decide +kernel
theorem dX10_takeNumber_75 : decode cX10_takeNumber 75 = .ok (.aload_n 0, 1) := by decide +kernel
theorem dX10_takeNumber_76 : decode cX10_takeNumber 76 = .ok (.aload_n 0, 1) := by decide +kernel
theorem dX10_takeNumber_77 : decode cX10_takeNumber 77 = .ok (.getfield 131, 3) := by decide +kernel
theorem dX10_takeNumber_80 : decode cX10_takeNumber 80 = .ok (.sipush 10000, 3) := by decide +kernel
theorem dX10_takeNumber_83 : decode cX10_takeNumber 83 = .ok (.if_icmp .le 10, 3) := by decide +kernel
theorem dX10_takeNumber_86 : decode cX10_takeNumber 86 = .ok (.aload_n 0, 1) := by decide +kernel
theorem dX10_takeNumber_87 : decode cX10_takeNumber 87 = .ok (.getfield 131, 3) := by decide +kernel
theorem dX10_takeNumber_90 : decode cX10_takeNumber 90 = .ok (.goto 23, 3) := by decide +kernel
theorem dX10_takeNumber_93 : decode cX10_takeNumber 93 = .ok (.bipush 10, 2) := by decide +kernel
theorem dX10_takeNumber_95 : decode cX10_takeNumber 95 = .ok (.aload_n 0, 1) := by decide +kernel
theorem dX10_takeNumber_96 : decode cX10_takeNumber 96 = .ok (.getfield 131, 3) := by decide +kernel
theorem dX10_takeNumber_99 : decode cX10_takeNumber 99 = .ok (.imul, 1) := by decide +kernel
theorem dX10_takeNumber_100 : decode cX10_takeNumber 100 = .ok (.aload_n 0, 1) := by decide +kernel
theorem dX10_takeNumber_101 : decode cX10_takeNumber 101 = .ok (.getfield 29, 3) := by decide +kernel
theorem dX10_takeNumber_104 : decode cX10_takeNumber 104 = .ok (.aload_n 0, 1) := by decide +kernel
theorem dX10_takeNumber_105 : decode cX10_takeNumber 105 = .ok (.getfield 94, 3) := by decide +kernel
theorem dX10_takeNumber_108 : decode cX10_takeNumber 108 = .ok (.iaload, 1) := by decide +kernel
theorem dX10_takeNumber_109 : decode cX10_takeNumber 109 = .ok (.iadd, 1) := by decide +kernel
theorem dX10_takeNumber_110 : decode cX10_takeNumber 110 = .ok (.bipush 48, 2) := by decide +kernel
theorem dX10_takeNumber_112 : decode cX10_takeNumber 112 = .ok (.isub, 1) := by decide +kernel
theorem dX10_takeNumber_113 : decode cX10_takeNumber 113 = .ok (.putfield 131, 3) := by decide +kernel
theorem dX10_takeNumber_116 : decode cX10_takeNumber 116 = .ok (.aload_n 0, 1) := by decide +kernel
theorem dX10_takeNumber_117 : decode cX10_takeNumber 117 = .ok (.dup, 1) := by decide +kernel
theorem dX10_takeNumber_118 : decode cX10_takeNumber 118 = .ok (.getfield 94, 3) := by decide +kernel
theorem dX10_takeNumber_121 : decode cX10_takeNumber 121 = .ok (.iconst 1, 1) := by decide +kernel
theorem dX10_takeNumber_122 : decode cX10_takeNumber 122 = .ok (.iadd, 1) := by decide +kernel
theorem dX10_takeNumber_123 : decode cX10_takeNumber 123 = .ok (.putfield 94, 3) := by decide +kernel
theorem dX10_takeNumber_126 : decode cX10_takeNumber 126 = .ok (.goto (-84), 3) := by decide +kernel
theorem dX10_takeNumber_129 : decode cX10_takeNumber 129 = .ok (.aload_n 0, 1) := by decide +kernel
theorem dX10_takeNumber_130 : decode cX10_takeNumber 130 = .ok (.getfield 94, 3) := by decide +kernel
theorem dX10_takeNumber_133 : decode cX10_takeNumber 133 = .ok (.aload_n 0, 1) := by decide +kernel
theorem dX10_takeNumber_134 : decode cX10_takeNumber 134 = .ok (.getfield 128, 3) := by decide +kernel
theorem dX10_takeNumber_137 : decode cX10_takeNumber 137 = .ok (.isub, 1) := by decide +kernel
theorem dX10_takeNumber_138 : decode cX10_takeNumber 138 = .ok (.iconst 3, 1) := by decide +kernel
theorem dX10_takeNumber_139 : decode cX10_takeNumber 139 = .ok (.if_icmp .gt 18, 3) := by decide +kernel
theorem dX10_takeNumber_142 : decode cX10_takeNumber 142 = .ok (.aload_n 0, 1) := by decide +kernel
theorem dX10_takeNumber_143 : decode cX10_takeNumber 143 = .ok (.getfield 131, 3) := by decide +kernel
theorem dX10_takeNumber_146 : decode cX10_takeNumber 146 = .ok (.i2l, 1) := by decide +kernel
theorem dX10_takeNumber_147 : decode cX10_takeNumber 147 = .ok (.iload_n 1, 1) := by decide +kernel
theorem dX10_takeNumber_148 : decode cX10_takeNumber 148 = .ok (.i2l, 1) := by decide +kernel
theorem dX10_takeNumber_149 : decode cX10_takeNumber 149 = .ok (.iload_n 2, 1) := by decide +kernel
theorem dX10_takeNumber_150 : decode cX10_takeNumber 150 = .ok (.i2l, 1) := by decide +kernel
theorem dX10_takeNumber_151 : decode cX10_takeNumber 151 = .ok (.invokestatic 81, 3) := by decide +kernel
theorem dX10_takeNumber_154 : decode cX10_takeNumber 154 = .ok (.ifCond .ne 15, 3) := by decide +kernel
theorem dX10_takeNumber_157 : decode cX10_takeNumber 157 = .ok (.aload_n 0, 1) := by decide +kernel
theorem dX10_takeNumber_158 : decode cX10_takeNumber 158 = .ok (.iconst 2, 1) := by decide +kernel
theorem dX10_takeNumber_159 : decode cX10_takeNumber 159 = .ok (.aload_n 0, 1) := by decide +kernel
theorem dX10_takeNumber_160 : decode cX10_takeNumber 160 = .ok (.getfield 128, 3) := by decide +kernel
theorem dX10_takeNumber_163 : decode cX10_takeNumber 163 = .ok (.invokevirtual 124, 3) := by decide +kernel
theorem dX10_takeNumber_166 : decode cX10_takeNumber 166 = .ok (.goto 4, 3) := by decide +kernel
theorem dX10_takeNumber_169 : decode cX10_takeNumber 169 = .ok (.iconst 0, 1) := by decide +kernel
theorem dX10_takeNumber_170 : decode cX10_takeNumber 170 = .ok (.ireturn, 1) := by decide +kernel
theorem dX10_takeStop_0 : decode cX10_takeStop 0 = .ok (.aload_n 0, 1) := by decide +kernel
theorem dX10_takeStop_1 : decode cX10_takeStop 1 = .ok (.invokevirtual 97, 3) := by decide +kernel
theorem dX10_takeStop_4 : decode cX10_takeStop 4 = .ok (.bipush 59, 2) := by decide +kernel
theorem dX10_takeStop_6 : decode cX10_takeStop 6 = .ok (.if_icmp .eq 13, 3) := by decide +kernel
theorem dX10_takeStop_9 : decode cX10_takeStop 9 = .ok (.aload_n 0, 1) := by decide +kernel
theorem dX10_takeStop_10 : decode cX10_takeStop 10 = .ok (.iconst 1, 1) := by decide +kernel
theorem dX10_takeStop_11 : decode cX10_takeStop 11 = .ok (.aload_n 0, 1) := by decide +kernel
theorem dX10_takeStop_12 : decode cX10_takeStop 12 = .ok (.getfield 94, 3) := by decide +kernel
theorem dX10_takeStop_15 : decode cX10_takeStop 15 = .ok (.invokevirtual 124, 3) := by decide +kernel
theorem dX10_takeStop_18 : decode cX10_takeStop 18 = .ok (.ireturn, 1) := by decide +kernel
theorem dX10_takeStop_19 : decode cX10_takeStop 19 = .ok (.aload_n 0, 1) := by decide +kernel
theorem dX10_takeStop_20 : decode cX10_takeStop 20 = .ok (.dup, 1) := by decide +kernel
theorem dX10_takeStop_21 : decode cX10_takeStop 21 = .ok (.getfield 94, 3) := by decide +kernel
theorem dX10_takeStop_24 : decode cX10_takeStop 24 = .ok (.iconst 1, 1) := by decide +kernel
theorem dX10_takeStop_25 : decode cX10_takeStop 25 = .ok (.iadd, 1) := by decide +kernel
theorem dX10_takeStop_26 : decode cX10_takeStop 26 = .ok (.putfield 94, 3) := by decide +kernel
theorem dX10_takeStop_29 : decode cX10_takeStop 29 = .ok (.iconst 0, 1) := by decide +kernel
theorem dX10_takeStop_30 : decode cX10_takeStop 30 = .ok (.ireturn, 1) := by decide +kernel
theorem dX10_isComma_0 : decode cX10_isComma 0 = .ok (.aload_n 0, 1) := by decide +kernel
theorem dX10_isComma_1 : decode cX10_isComma 1 = .ok (.invokevirtual 97, 3) := by decide +kernel
theorem dX10_isComma_4 : decode cX10_isComma 4 = .ok (.bipush 44, 2) := by decide +kernel
theorem dX10_isComma_6 : decode cX10_isComma 6 = .ok (.if_icmp .ne 7, 3) := by decide +kernel
theorem dX10_isComma_9 : decode cX10_isComma 9 = .ok (.iconst 1, 1) := by decide +kernel
theorem dX10_isComma_10 : decode cX10_isComma 10 = .ok (.goto 4, 3) := by decide +kernel
theorem dX10_isComma_13 : decode cX10_isComma 13 = .ok (.iconst 0, 1) := by decide +kernel
theorem dX10_isComma_14 : decode cX10_isComma 14 = .ok (.istore_n 1, 1) := by decide +kernel
theorem dX10_isComma_15 : decode cX10_isComma 15 = .ok (.aload_n 0, 1) := by decide +kernel
theorem dX10_isComma_16 : decode cX10_isComma 16 = .ok (.dup, 1) := by decide +kernel
theorem dX10_isComma_17 : decode cX10_isComma 17 = .ok (.getfield 94, 3) := by decide +kernel
theorem dX10_isComma_20 : decode cX10_isComma 20 = .ok (.iload_n 1, 1) := by decide +kernel
theorem dX10_isComma_21 : decode cX10_isComma 21 = .ok (.ifCond .eq 7, 3) := by decide +kernel
theorem dX10_isComma_24 : decode cX10_isComma 24 = .ok (.iconst 1, 1) := by decide +kernel
theorem dX10_isComma_25 : decode cX10_isComma 25 = .ok (.goto 4, 3) := by decide +kernel
theorem dX10_isComma_28 : decode cX10_isComma 28 = .ok (.iconst 0, 1) := by decide +kernel
theorem dX10_isComma_29 : decode cX10_isComma 29 = .ok (.iadd, 1) := by decide +kernel
theorem dX10_isComma_30 : decode cX10_isComma 30 = .ok (.putfield 94, 3) := by decide +kernel
theorem dX10_isComma_33 : decode cX10_isComma 33 = .ok (.iload_n 1, 1) := by decide +kernel
theorem dX10_isComma_34 : decode cX10_isComma 34 = .ok (.ireturn, 1) := by decide +kernel
theorem dX10_bare_0 : decode cX10_bare 0 = .ok (.aload_n 0, 1) := by decide +kernel
theorem dX10_bare_1 : decode cX10_bare 1 = .ok (.iconst 0, 1) := by decide +kernel
theorem dX10_bare_2 : decode cX10_bare 2 = .ok (.putfield 134, 3) := by decide +kernel
