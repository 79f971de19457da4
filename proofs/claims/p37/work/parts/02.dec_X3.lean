theorem dX3_init_0 : decode cX3_init 0 = .ok (.aload_n 0, 1) := by decide +kernel
theorem dX3_init_1 : decode cX3_init 1 = .ok (.invokespecial 3, 3) := by decide +kernel
theorem dX3_init_4 : decode cX3_init 4 = .ok (.aload_n 0, 1) := by decide +kernel
theorem dX3_init_5 : decode cX3_init 5 = .ok (.bipush 6, 2) := by decide +kernel
theorem dX3_init_7 : decode cX3_init 7 = .ok (.newarray .int, 2) := by decide +kernel
theorem dX3_init_9 : decode cX3_init 9 = .ok (.putfield 9, 3) := by decide +kernel
theorem dX3_init_12 : decode cX3_init 12 = .ok (.aload_n 0, 1) := by decide +kernel
theorem dX3_init_13 : decode cX3_init 13 = .ok (.bipush 6, 2) := by decide +kernel
theorem dX3_init_15 : decode cX3_init 15 = .ok (.newarray .int, 2) := by decide +kernel
theorem dX3_init_17 : decode cX3_init 17 = .ok (.putfield 15, 3) := by decide +kernel
theorem dX3_init_20 : decode cX3_init 20 = .ok (.return_, 1) := by decide +kernel
theorem dX3_countGroups_0 : decode cX3_countGroups 0 = .ok (.aload_n 0, 1) := by decide +kernel
theorem dX3_countGroups_1 : decode cX3_countGroups 1 = .ok (.invokevirtual 18, 3) := by decide +kernel
theorem dX3_countGroups_4 : decode cX3_countGroups 4 = .ok (.aload_n 1, 1) := by decide +kernel
theorem dX3_countGroups_5 : decode cX3_countGroups 5 = .ok (.getfield 21, 3) := by decide +kernel
theorem dX3_countGroups_8 : decode cX3_countGroups 8 = .ok (.istore_n 2, 1) := by decide +kernel
theorem dX3_countGroups_9 : decode cX3_countGroups 9 = .ok (.iconst 0, 1) := by decide +kernel
theorem dX3_countGroups_10 : decode cX3_countGroups 10 = .ok (.istore_n 3, 1) := by decide +kernel
theorem dX3_countGroups_11 : decode cX3_countGroups 11 = .ok (.iload_n 3, 1) := by decide +kernel
theorem dX3_countGroups_12 : decode cX3_countGroups 12 = .ok (.aload_n 1, 1) := by decide +kernel
theorem dX3_countGroups_13 : decode cX3_countGroups 13 = .ok (.getfield 27, 3) := by decide +kernel
theorem dX3_countGroups_16 : decode cX3_countGroups 16 = .ok (.if_icmp .ge 21, 3) := by decide +kernel
theorem dX3_countGroups_19 : decode cX3_countGroups 19 = .ok (.aload_n 0, 1) := by decide +kernel
theorem dX3_countGroups_20 : decode cX3_countGroups 20 = .ok (.aload_n 1, 1) := by decide +kernel
theorem dX3_countGroups_21 : decode cX3_countGroups 21 = .ok (.iload_n 3, 1) := by decide +kernel
theorem dX3_countGroups_22 : decode cX3_countGroups 22 = .ok (.invokevirtual 30, 3) := by decide +kernel
theorem dX3_countGroups_25 : decode cX3_countGroups 25 = .ok (.ifCond .eq 6, 3) := by decide +kernel
theorem dX3_countGroups_28 : decode cX3_countGroups 28 = .ok (.iinc 2 (-1), 3) := by decide +kernel
theorem dX3_countGroups_31 : decode cX3_countGroups 31 = .ok (.iinc 3 1, 3) := by decide +kernel
theorem dX3_countGroups_34 : decode cX3_countGroups 34 = .ok (.goto (-23), 3) := by decide +kernel
theorem dX3_countGroups_37 : decode cX3_countGroups 37 = .ok (.iload_n 2, 1) := by decide +kernel
theorem dX3_countGroups_38 : decode cX3_countGroups 38 = .ok (.ireturn, 1) := by decide +kernel
theorem dX3_canDivide_0 : decode cX3_canDivide 0 = .ok (.aload_n 0, 1) := by decide +kernel
theorem dX3_canDivide_1 : decode cX3_canDivide 1 = .ok (.invokevirtual 18, 3) := by decide +kernel
theorem dX3_canDivide_4 : decode cX3_canDivide 4 = .ok (.iconst 0, 1) := by decide +kernel
theorem dX3_canDivide_5 : decode cX3_canDivide 5 = .ok (.istore_n 2, 1) := by decide +kernel
theorem dX3_canDivide_6 : decode cX3_canDivide 6 = .ok (.iload_n 2, 1) := by decide +kernel
theorem dX3_canDivide_7 : decode cX3_canDivide 7 = .ok (.aload_n 1, 1) := by decide +kernel
theorem dX3_canDivide_8 : decode cX3_canDivide 8 = .ok (.getfield 27, 3) := by decide +kernel
theorem dX3_canDivide_11 : decode cX3_canDivide 11 = .ok (.if_icmp .ge 29, 3) := by decide +kernel
theorem dX3_canDivide_14 : decode cX3_canDivide 14 = .ok (.aload_n 0, 1) := by decide +kernel
theorem dX3_canDivide_15 : decode cX3_canDivide 15 = .ok (.aload_n 1, 1) := by decide +kernel
theorem dX3_canDivide_16 : decode cX3_canDivide 16 = .ok (.iload_n 2, 1) := by decide +kernel
theorem dX3_canDivide_17 : decode cX3_canDivide 17 = .ok (.invokevirtual 30, 3) := by decide +kernel
theorem dX3_canDivide_20 : decode cX3_canDivide 20 = .ok (.ifCond .ne 14, 3) := by decide +kernel
theorem dX3_canDivide_23 : decode cX3_canDivide 23 = .ok (.aload_n 0, 1) := by decide +kernel
theorem dX3_canDivide_24 : decode cX3_canDivide 24 = .ok (.aload_n 1, 1) := by decide +kernel
theorem dX3_canDivide_25 : decode cX3_canDivide 25 = .ok (.iload_n 2, 1) := by decide +kernel
theorem dX3_canDivide_26 : decode cX3_canDivide 26 = .ok (.invokevirtual 34, 3) := by decide +kernel
theorem dX3_canDivide_29 : decode cX3_canDivide 29 = .ok (.ifCond .eq 5, 3) := by decide +kernel
theorem dX3_canDivide_32 : decode cX3_canDivide 32 = .ok (.iconst 0, 1) := by decide +kernel
theorem dX3_canDivide_33 : decode cX3_canDivide 33 = .ok (.ireturn, 1) := by decide +kernel
theorem dX3_canDivide_34 : decode cX3_canDivide 34 = .ok (.iinc 2 1, 3) := by decide +kernel
theorem dX3_canDivide_37 : decode cX3_canDivide 37 = .ok (.goto (-31), 3) := by decide +kernel
theorem dX3_canDivide_40 : decode cX3_canDivide 40 = .ok (.iconst 1, 1) := by decide +kernel
theorem dX3_canDivide_41 : decode cX3_canDivide 41 = .ok (.ireturn, 1) := by decide +kernel
theorem dX3_countTrees_0 : decode cX3_countTrees 0 = .ok (.iconst 0, 1) := by decide +kernel
theorem dX3_countTrees_1 : decode cX3_countTrees 1 = .ok (.istore_n 2, 1) := by decide +kernel
theorem dX3_countTrees_2 : decode cX3_countTrees 2 = .ok (.iconst 0, 1) := by decide +kernel
theorem dX3_countTrees_3 : decode cX3_countTrees 3 = .ok (.istore_n 3, 1) := by decide +kernel
theorem dX3_countTrees_4 : decode cX3_countTrees 4 = .ok (.iload_n 3, 1) := by decide +kernel
theorem dX3_countTrees_5 : decode cX3_countTrees 5 = .ok (.iconst 1, 1) := by decide +kernel
theorem dX3_countTrees_6 : decode cX3_countTrees 6 = .ok (.aload_n 1, 1) := by decide +kernel
theorem dX3_countTrees_7 : decode cX3_countTrees 7 = .ok (.getfield 27, 3) := by decide +kernel
theorem dX3_countTrees_10 : decode cX3_countTrees 10 = .ok (.ishl, 1) := by decide +kernel
theorem dX3_countTrees_11 : decode cX3_countTrees 11 = .ok (.if_icmp .ge 34, 3) := by decide +kernel
theorem dX3_countTrees_14 : decode cX3_countTrees 14 = .ok (.iload_n 3, 1) := by decide +kernel
theorem dX3_countTrees_15 : decode cX3_countTrees 15 = .ok (.invokestatic 38, 3) := by decide +kernel
theorem dX3_countTrees_18 : decode cX3_countTrees 18 = .ok (.aload_n 1, 1) := by decide +kernel
theorem dX3_countTrees_19 : decode cX3_countTrees 19 = .ok (.getfield 21, 3) := by decide +kernel
theorem dX3_countTrees_22 : decode cX3_countTrees 22 = .ok (.iconst 1, 1) := by decide +kernel
theorem dX3_countTrees_23 : decode cX3_countTrees 23 = .ok (.isub, 1) := by decide +kernel
theorem dX3_countTrees_24 : decode cX3_countTrees 24 = .ok (.if_icmp .ne 15, 3) := by decide +kernel
theorem dX3_countTrees_27 : decode cX3_countTrees 27 = .ok (.aload_n 0, 1) := by decide +kernel
theorem dX3_countTrees_28 : decode cX3_countTrees 28 = .ok (.aload_n 1, 1) := by decide +kernel
theorem dX3_countTrees_29 : decode cX3_countTrees 29 = .ok (.iload_n 3, 1) := by decide +kernel
theorem dX3_countTrees_30 : decode cX3_countTrees 30 = .ok (.invokevirtual 44, 3) := by decide +kernel
theorem dX3_countTrees_33 : decode cX3_countTrees 33 = .ok (.ifCond .eq 6, 3) := by decide +kernel
theorem dX3_countTrees_36 : decode cX3_countTrees 36 = .ok (.iinc 2 1, 3) := by decide +kernel
theorem dX3_countTrees_39 : decode cX3_countTrees 39 = .ok (.iinc 3 1, 3) := by decide +kernel
theorem dX3_countTrees_42 : decode cX3_countTrees 42 = .ok (.goto (-38), 3) := by decide +kernel
theorem dX3_countTrees_45 : decode cX3_countTrees 45 = .ok (.iload_n 2, 1) := by decide +kernel
theorem dX3_countTrees_46 : decode cX3_countTrees 46 = .ok (.ireturn, 1) := by decide +kernel
theorem dX3_isForest_0 : decode cX3_isForest 0 = .ok (.aload_n 0, 1) := by decide +kernel
theorem dX3_isForest_1 : decode cX3_isForest 1 = .ok (.invokevirtual 18, 3) := by decide +kernel
theorem dX3_isForest_4 : decode cX3_isForest 4 = .ok (.iconst 0, 1) := by decide +kernel
theorem dX3_isForest_5 : decode cX3_isForest 5 = .ok (.istore_n 3, 1) := by decide +kernel
theorem dX3_isForest_6 : decode cX3_isForest 6 = .ok (.iload_n 3, 1) := by decide +kernel
theorem dX3_isForest_7 : decode cX3_isForest 7 = .ok (.aload_n 1, 1) := by decide +kernel
theorem dX3_isForest_8 : decode cX3_isForest 8 = .ok (.getfield 27, 3) := by decide +kernel
theorem dX3_isForest_11 : decode cX3_isForest 11 = .ok (.if_icmp .ge 41, 3) := by decide +kernel
theorem dX3_isForest_14 : decode cX3_isForest 14 = .ok (.iload_n 2, 1) := by decide +kernel
theorem dX3_isForest_15 : decode cX3_isForest 15 = .ok (.iload_n 3, 1) := by decide +kernel
theorem dX3_isForest_16 : decode cX3_isForest 16 = .ok (.ishr, 1) := by decide +kernel
theorem dX3_isForest_17 : decode cX3_isForest 17 = .ok (.iconst 1, 1) := by decide +kernel
theorem dX3_isForest_18 : decode cX3_isForest 18 = .ok (.iand, 1) := by decide +kernel
theorem dX3_isForest_19 : decode cX3_isForest 19 = .ok (.iconst 1, 1) := by decide +kernel
theorem dX3_isForest_20 : decode cX3_isForest 20 = .ok (.if_icmp .ne 7, 3) := by decide +kernel
theorem dX3_isForest_23 : decode cX3_isForest 23 = .ok (.iconst 1, 1) := by decide +kernel
theorem dX3_isForest_24 : decode cX3_isForest 24 = .ok (.goto 4, 3) := by decide +kernel
theorem dX3_isForest_27 : decode cX3_isForest 27 = .ok (.iconst 0, 1) := by decide +kernel
theorem dX3_isForest_28 : decode cX3_isForest 28 = .ok (.istore 4, 2) := by decide +kernel
theorem dX3_isForest_30 : decode cX3_isForest 30 = .ok (.iload 4, 2) := by decide +kernel
theorem dX3_isForest_32 : decode cX3_isForest 32 = .ok (.ifCond .eq 14, 3) := by decide +kernel
theorem dX3_isForest_35 : decode cX3_isForest 35 = .ok (.aload_n 0, 1) := by decide +kernel
theorem dX3_isForest_36 : decode cX3_isForest 36 = .ok (.aload_n 1, 1) := by decide +kernel
theorem dX3_isForest_37 : decode cX3_isForest 37 = .ok (.iload_n 3, 1) := by decide +kernel
theorem dX3_isForest_38 : decode cX3_isForest 38 = .ok (.invokevirtual 30, 3) := by decide +kernel
theorem dX3_isForest_41 : decode cX3_isForest 41 = .ok (.ifCond .ne 5, 3) := by decide +kernel
theorem dX3_isForest_44 : decode cX3_isForest 44 = .ok (.iconst 0, 1) := by decide +kernel
theorem dX3_isForest_45 : decode cX3_isForest 45 = .ok (.ireturn, 1) := by decide +kernel
theorem dX3_isForest_46 : decode cX3_isForest 46 = .ok (.iinc 3 1, 3) := by decide +kernel
theorem dX3_isForest_49 : decode cX3_isForest 49 = .ok (.goto (-43), 3) := by decide +kernel
theorem dX3_isForest_52 : decode cX3_isForest 52 = .ok (.iconst 1, 1) := by decide +kernel
theorem dX3_isForest_53 : decode cX3_isForest 53 = .ok (.ireturn, 1) := by decide +kernel
theorem dX3_separate_0 : decode cX3_separate 0 = .ok (.iconst 0, 1) := by decide +kernel
theorem dX3_separate_1 : decode cX3_separate 1 = .ok (.istore_n 1, 1) := by decide +kernel
theorem dX3_separate_2 : decode cX3_separate 2 = .ok (.iload_n 1, 1) := by decide +kernel
theorem dX3_separate_3 : decode cX3_separate 3 = .ok (.bipush 6, 2) := by decide +kernel
theorem dX3_separate_5 : decode cX3_separate 5 = .ok (.if_icmp .ge 23, 3) := by decide +kernel
theorem dX3_separate_8 : decode cX3_separate 8 = .ok (.aload_n 0, 1) := by decide +kernel
theorem dX3_separate_9 : decode cX3_separate 9 = .ok (.getfield 9, 3) := by decide +kernel
theorem dX3_separate_12 : decode cX3_separate 12 = .ok (.iload_n 1, 1) := by decide +kernel
theorem dX3_separate_13 : decode cX3_separate 13 = .ok (.iload_n 1, 1) := by decide +kernel
theorem dX3_separate_14 : decode cX3_separate 14 = .ok (.iastore, 1) := by decide +kernel
theorem dX3_separate_15 : decode cX3_separate 15 = .ok (.aload_n 0, 1) := by decide +kernel
theorem dX3_separate_16 : decode cX3_separate 16 = .ok (.getfield 15, 3) := by decide +kernel
theorem dX3_separate_19 : decode cX3_separate 19 = .ok (.iload_n 1, 1) := by decide +kernel
theorem dX3_separate_20 : decode cX3_separate 20 = .ok (.iconst 0, 1) := by decide +kernel
theorem dX3_separate_21 : decode cX3_separate 21 = .ok (.iastore, 1) := by decide +kernel
theorem dX3_separate_22 : decode cX3_separate 22 = .ok (.iinc 1 1, 3) := by decide +kernel
theorem dX3_separate_25 : decode cX3_separate 25 = .ok (.goto (-23), 3) := by decide +kernel
theorem dX3_separate_28 : decode cX3_separate 28 = .ok (.return_, 1) := by decide +kernel
theorem dX3_unite_0 : decode cX3_unite 0 = .ok (.aload_n 0, 1) := by decide +kernel
theorem dX3_unite_1 : decode cX3_unite 1 = .ok (.getfield 9, 3) := by decide +kernel
theorem dX3_unite_4 : decode cX3_unite 4 = .ok (.aload_n 1, 1) := by decide +kernel
theorem dX3_unite_5 : decode cX3_unite 5 = .ok (.getfield 47, 3) := by decide +kernel
theorem dX3_unite_8 : decode cX3_unite 8 = .ok (.iload_n 2, 1) := by decide +kernel
theorem dX3_unite_9 : decode cX3_unite 9 = .ok (.iaload, 1) := by decide +kernel
theorem dX3_unite_10 : decode cX3_unite 10 = .ok (.iaload, 1) := by decide +kernel
theorem dX3_unite_11 : decode cX3_unite 11 = .ok (.istore_n 3, 1) := by decide +kernel
theorem dX3_unite_12 : decode cX3_unite 12 = .ok (.aload_n 0, 1) := by decide +kernel
theorem dX3_unite_13 : decode cX3_unite 13 = .ok (.getfield 9, 3) := by decide +kernel
theorem dX3_unite_16 : decode cX3_unite 16 = .ok (.aload_n 1, 1) := by decide +kernel
theorem dX3_unite_17 : decode cX3_unite 17 = .ok (.getfield 50, 3) := by decide +kernel
theorem dX3_unite_20 : decode cX3_unite 20 = .ok (.iload_n 2, 1) := by decide +kernel
theorem dX3_unite_21 : decode cX3_unite 21 = .ok (.iaload, 1) := by decide +kernel
theorem dX3_unite_22 : decode cX3_unite 22 = .ok (.iaload, 1) := by decide +kernel
theorem dX3_unite_23 : decode cX3_unite 23 = .ok (.istore 4, 2) := by decide +kernel
theorem dX3_unite_25 : decode cX3_unite 25 = .ok (.iload_n 3, 1) := by decide +kernel
theorem dX3_unite_26 : decode cX3_unite 26 = .ok (.iload 4, 2) := by decide +kernel
theorem dX3_unite_28 : decode cX3_unite 28 = .ok (.if_icmp .ne 5, 3) := by decide +kernel
theorem dX3_unite_31 : decode cX3_unite 31 = .ok (.iconst 0, 1) := by decide +kernel
theorem dX3_unite_32 : decode cX3_unite 32 = .ok (.ireturn, 1) := by decide +kernel
theorem dX3_unite_33 : decode cX3_unite 33 = .ok (.aload_n 0, 1) := by decide +kernel
theorem dX3_unite_34 : decode cX3_unite 34 = .ok (.aload_n 1, 1) := by decide +kernel
theorem dX3_unite_35 : decode cX3_unite 35 = .ok (.iload_n 2, 1) := by decide +kernel
theorem dX3_unite_36 : decode cX3_unite 36 = .ok (.invokevirtual 34, 3) := by decide +kernel
theorem dX3_unite_39 : decode cX3_unite 39 = .ok (.istore 5, 2) := by decide +kernel
theorem dX3_unite_41 : decode cX3_unite 41 = .ok (.iconst 0, 1) := by decide +kernel
theorem dX3_unite_42 : decode cX3_unite 42 = .ok (.istore 6, 2) := by decide +kernel
theorem dX3_unite_44 : decode cX3_unite 44 = .ok (.iload 6, 2) := by decide +kernel
theorem dX3_unite_46 : decode cX3_unite 46 = .ok (.bipush 6, 2) := by decide +kernel
theorem dX3_unite_48 : decode cX3_unite 48 = .ok (.if_icmp .ge 41, 3) := by decide +kernel
theorem dX3_unite_51 : decode cX3_unite 51 = .ok (.aload_n 0, 1) := by decide +kernel
theorem dX3_unite_52 : decode cX3_unite 52 = .ok (.getfield 9, 3) := by decide +kernel
theorem dX3_unite_55 : decode cX3_unite 55 = .ok (.iload 6, 2) := by decide +kernel
theorem dX3_unite_57 : decode cX3_unite 57 = .ok (.iaload, 1) := by decide +kernel
theorem dX3_unite_58 : decode cX3_unite 58 = .ok (.iload 4, 2) := by decide +kernel
theorem dX3_unite_60 : decode cX3_unite 60 = .ok (.if_icmp .ne 23, 3) := by decide +kernel
theorem dX3_unite_63 : decode cX3_unite 63 = .ok (.aload_n 0, 1) := by decide +kernel
theorem dX3_unite_64 : decode cX3_unite 64 = .ok (.getfield 9, 3) := by decide +kernel
theorem dX3_unite_67 : decode cX3_unite 67 = .ok (.iload 6, 2) := by decide +kernel
theorem dX3_unite_69 : decode cX3_unite 69 = .ok (.iload_n 3, 1) := by decide +kernel
theorem dX3_unite_70 : decode cX3_unite 70 = .ok (.iastore, 1) := by decide +kernel
theorem dX3_unite_71 : decode cX3_unite 71 = .ok (.aload_n 0, 1) := by decide +kernel
theorem dX3_unite_72 : decode cX3_unite 72 = .ok (.getfield 15, 3) := by decide +kernel
theorem dX3_unite_75 : decode cX3_unite 75 = .ok (.iload 6, 2) := by decide +kernel
theorem dX3_unite_77 : decode cX3_unite 77 = .ok (.dup2, 1) := by decide +kernel
theorem dX3_unite_78 : decode cX3_unite 78 = .ok (.iaload, 1) := by decide +kernel
theorem dX3_unite_79 : decode cX3_unite 79 = .ok (.iload 5, 2) := by decide +kernel
theorem dX3_unite_81 : decode cX3_unite 81 = .ok (.ixor, 1) := by decide +kernel
theorem dX3_unite_82 : decode cX3_unite 82 = .ok (.iastore, 1) := by decide +kernel
theorem dX3_unite_83 : decode cX3_unite 83 = .ok (.iinc 6 1, 3) := by decide +kernel
theorem dX3_unite_86 : decode cX3_unite 86 = .ok (.goto (-42), 3) := by decide +kernel
theorem dX3_unite_89 : decode cX3_unite 89 = .ok (.iconst 1, 1) := by decide +kernel
theorem dX3_unite_90 : decode cX3_unite 90 = .ok (.ireturn, 1) := by decide +kernel
theorem dX3_turnFor_0 : decode cX3_turnFor 0 = .ok (.aload_n 1, 1) := by decide +kernel
theorem dX3_turnFor_1 : decode cX3_turnFor 1 = .ok (.getfield 53, 3) := by decide +kernel
theorem dX3_turnFor_4 : decode cX3_turnFor 4 = .ok (.iload_n 2, 1) := by decide +kernel
theorem dX3_turnFor_5 : decode cX3_turnFor 5 = .ok (.iaload, 1) := by decide +kernel
theorem dX3_turnFor_6 : decode cX3_turnFor 6 = .ok (.iconst (-1), 1) := by decide +kernel
theorem dX3_turnFor_7 : decode cX3_turnFor 7 = .ok (.if_icmp .ne 7, 3) := by decide +kernel
theorem dX3_turnFor_10 : decode cX3_turnFor 10 = .ok (.iconst 1, 1) := by decide +kernel
theorem dX3_turnFor_11 : decode cX3_turnFor 11 = .ok (.goto 4, 3) := by decide +kernel
theorem dX3_turnFor_14 : decode cX3_turnFor 14 = .ok (.iconst 0, 1) := by decide +kernel
theorem dX3_turnFor_15 : decode cX3_turnFor 15 = .ok (.istore_n 3, 1) := by decide +kernel
theorem dX3_turnFor_16 : decode cX3_turnFor 16 = .ok (.aload_n 0, 1) := by decide +kernel
theorem dX3_turnFor_17 : decode cX3_turnFor 17 = .ok (.getfield 15, 3) := by decide +kernel
theorem dX3_turnFor_20 : decode cX3_turnFor 20 = .ok (.aload_n 1, 1) := by decide +kernel
theorem dX3_turnFor_21 : decode cX3_turnFor 21 = .ok (.getfield 47, 3) := by decide +kernel
theorem dX3_turnFor_24 : decode cX3_turnFor 24 = .ok (.iload_n 2, 1) := by decide +kernel
theorem dX3_turnFor_25 : decode cX3_turnFor 25 = .ok (.iaload, 1) := by decide +kernel
theorem dX3_turnFor_26 : decode cX3_turnFor 26 = .ok (.iaload, 1) := by decide +kernel
theorem dX3_turnFor_27 : decode cX3_turnFor 27 = .ok (.aload_n 0, 1) := by decide +kernel
theorem dX3_turnFor_28 : decode cX3_turnFor 28 = .ok (.getfield 15, 3) := by decide +kernel
theorem dX3_turnFor_31 : decode cX3_turnFor 31 = .ok (.aload_n 1, 1) := by decide +kernel
theorem dX3_turnFor_32 : decode cX3_turnFor 32 = .ok (.getfield 50, 3) := by decide +kernel
theorem dX3_turnFor_35 : decode cX3_turnFor 35 = .ok (.iload_n 2, 1) := by decide +kernel
theorem dX3_turnFor_36 : decode cX3_turnFor 36 = .ok (.iaload, 1) := by decide +kernel
theorem dX3_turnFor_37 : decode cX3_turnFor 37 = .ok (.iaload, 1) := by decide +kernel
theorem dX3_turnFor_38 : decode cX3_turnFor 38 = .ok (.ixor, 1) := by decide +kernel
theorem dX3_turnFor_39 : decode cX3_turnFor 39 = .ok (.iload_n 3, 1) := by decide +kernel
theorem dX3_turnFor_40 : decode cX3_turnFor 40 = .ok (.ixor, 1) := by decide +kernel
theorem dX3_turnFor_41 : decode cX3_turnFor 41 = .ok (.ireturn, 1) := by decide +kernel
