theorem dX7_init_0 : decode cX7_init 0 = .ok (.aload_n 0, 1) := by decide +kernel
theorem dX7_init_1 : decode cX7_init 1 = .ok (.invokespecial 3, 3) := by decide +kernel
theorem dX7_init_4 : decode cX7_init 4 = .ok (.aload_n 0, 1) := by decide +kernel
theorem dX7_init_5 : decode cX7_init 5 = .ok (.bipush 19, 2) := by decide +kernel
theorem dX7_init_7 : decode cX7_init 7 = .ok (.newarray .long, 2) := by decide +kernel
theorem dX7_init_9 : decode cX7_init 9 = .ok (.putfield 9, 3) := by decide +kernel
theorem dX7_init_12 : decode cX7_init 12 = .ok (.aload_n 0, 1) := by decide +kernel
theorem dX7_init_13 : decode cX7_init 13 = .ok (.bipush 19, 2) := by decide +kernel
theorem dX7_init_15 : decode cX7_init 15 = .ok (.newarray .long, 2) := by decide +kernel
theorem dX7_init_17 : decode cX7_init 17 = .ok (.putfield 15, 3) := by decide +kernel
theorem dX7_init_20 : decode cX7_init 20 = .ok (.aload_n 0, 1) := by decide +kernel
theorem dX7_init_21 : decode cX7_init 21 = .ok (.bipush 19, 2) := by decide +kernel
theorem dX7_init_23 : decode cX7_init 23 = .ok (.newarray .long, 2) := by decide +kernel
theorem dX7_init_25 : decode cX7_init 25 = .ok (.putfield 18, 3) := by decide +kernel
theorem dX7_init_28 : decode cX7_init 28 = .ok (.aload_n 0, 1) := by decide +kernel
theorem dX7_init_29 : decode cX7_init 29 = .ok (.bipush 19, 2) := by decide +kernel
theorem dX7_init_31 : decode cX7_init 31 = .ok (.newarray .long, 2) := by decide +kernel
theorem dX7_init_33 : decode cX7_init 33 = .ok (.putfield 21, 3) := by decide +kernel
theorem dX7_init_36 : decode cX7_init 36 = .ok (.aload_n 0, 1) := by decide +kernel
theorem dX7_init_37 : decode cX7_init 37 = .ok (.bipush 18, 2) := by decide +kernel
theorem dX7_init_39 : decode cX7_init 39 = .ok (.newarray .long, 2) := by decide +kernel
theorem dX7_init_41 : decode cX7_init 41 = .ok (.putfield 24, 3) := by decide +kernel
theorem dX7_init_44 : decode cX7_init 44 = .ok (.aload_n 0, 1) := by decide +kernel
theorem dX7_init_45 : decode cX7_init 45 = .ok (.bipush 6, 2) := by decide +kernel
theorem dX7_init_47 : decode cX7_init 47 = .ok (.newarray .long, 2) := by decide +kernel
theorem dX7_init_49 : decode cX7_init 49 = .ok (.putfield 27, 3) := by decide +kernel
theorem dX7_init_52 : decode cX7_init 52 = .ok (.return_, 1) := by decide +kernel
theorem dX7_countClosed_0 : decode cX7_countClosed 0 = .ok (.aload_n 0, 1) := by decide +kernel
theorem dX7_countClosed_1 : decode cX7_countClosed 1 = .ok (.aload_n 1, 1) := by decide +kernel
theorem dX7_countClosed_2 : decode cX7_countClosed 2 = .ok (.iconst 0, 1) := by decide +kernel
theorem dX7_countClosed_3 : decode cX7_countClosed 3 = .ok (.aload_n 0, 1) := by decide +kernel
theorem dX7_countClosed_4 : decode cX7_countClosed 4 = .ok (.getfield 9, 3) := by decide +kernel
theorem dX7_countClosed_7 : decode cX7_countClosed 7 = .ok (.invokevirtual 30, 3) := by decide +kernel
theorem dX7_countClosed_10 : decode cX7_countClosed 10 = .ok (.return_, 1) := by decide +kernel
theorem dX7_countClosedSigned_0 : decode cX7_countClosedSigned 0 = .ok (.aload_n 0, 1) := by decide +kernel
theorem dX7_countClosedSigned_1 : decode cX7_countClosedSigned 1 = .ok (.aload_n 1, 1) := by decide +kernel
theorem dX7_countClosedSigned_2 : decode cX7_countClosedSigned 2 = .ok (.iconst 1, 1) := by decide +kernel
theorem dX7_countClosedSigned_3 : decode cX7_countClosedSigned 3 = .ok (.aload_n 0, 1) := by decide +kernel
theorem dX7_countClosedSigned_4 : decode cX7_countClosedSigned 4 = .ok (.getfield 15, 3) := by decide +kernel
theorem dX7_countClosedSigned_7 : decode cX7_countClosedSigned 7 = .ok (.invokevirtual 30, 3) := by decide +kernel
theorem dX7_countClosedSigned_10 : decode cX7_countClosedSigned 10 = .ok (.return_, 1) := by decide +kernel
theorem dX7_countPrimitive_0 : decode cX7_countPrimitive 0 = .ok (.aload_n 0, 1) := by decide +kernel
theorem dX7_countPrimitive_1 : decode cX7_countPrimitive 1 = .ok (.aload_n 1, 1) := by decide +kernel
theorem dX7_countPrimitive_2 : decode cX7_countPrimitive 2 = .ok (.invokevirtual 34, 3) := by decide +kernel
theorem dX7_countPrimitive_5 : decode cX7_countPrimitive 5 = .ok (.iconst 1, 1) := by decide +kernel
theorem dX7_countPrimitive_6 : decode cX7_countPrimitive 6 = .ok (.istore_n 2, 1) := by decide +kernel
theorem dX7_countPrimitive_7 : decode cX7_countPrimitive 7 = .ok (.iload_n 2, 1) := by decide +kernel
theorem dX7_countPrimitive_8 : decode cX7_countPrimitive 8 = .ok (.bipush 18, 2) := by decide +kernel
theorem dX7_countPrimitive_10 : decode cX7_countPrimitive 10 = .ok (.if_icmp .gt 55, 3) := by decide +kernel
theorem dX7_countPrimitive_13 : decode cX7_countPrimitive 13 = .ok (.aload_n 0, 1) := by decide +kernel
theorem dX7_countPrimitive_14 : decode cX7_countPrimitive 14 = .ok (.getfield 18, 3) := by decide +kernel
theorem dX7_countPrimitive_17 : decode cX7_countPrimitive 17 = .ok (.iload_n 2, 1) := by decide +kernel
theorem dX7_countPrimitive_18 : decode cX7_countPrimitive 18 = .ok (.aload_n 0, 1) := by decide +kernel
theorem dX7_countPrimitive_19 : decode cX7_countPrimitive 19 = .ok (.getfield 9, 3) := by decide +kernel
theorem dX7_countPrimitive_22 : decode cX7_countPrimitive 22 = .ok (.iload_n 2, 1) := by decide +kernel
theorem dX7_countPrimitive_23 : decode cX7_countPrimitive 23 = .ok (.laload, 1) := by decide +kernel
theorem dX7_countPrimitive_24 : decode cX7_countPrimitive 24 = .ok (.lastore, 1) := by decide +kernel
theorem dX7_countPrimitive_25 : decode cX7_countPrimitive 25 = .ok (.iconst 1, 1) := by decide +kernel
theorem dX7_countPrimitive_26 : decode cX7_countPrimitive 26 = .ok (.istore_n 3, 1) := by decide +kernel
theorem dX7_countPrimitive_27 : decode cX7_countPrimitive 27 = .ok (.iload_n 3, 1) := by decide +kernel
theorem dX7_countPrimitive_28 : decode cX7_countPrimitive 28 = .ok (.iload_n 2, 1) := by decide +kernel
theorem dX7_countPrimitive_29 : decode cX7_countPrimitive 29 = .ok (.if_icmp .ge 30, 3) := by decide +kernel
theorem dX7_countPrimitive_32 : decode cX7_countPrimitive 32 = .ok (.iload_n 2, 1) := by decide +kernel
theorem dX7_countPrimitive_33 : decode cX7_countPrimitive 33 = .ok (.iload_n 3, 1) := by decide +kernel
theorem dX7_countPrimitive_34 : decode cX7_countPrimitive 34 = .ok (.irem, 1) := by decide +kernel
theorem dX7_countPrimitive_35 : decode cX7_countPrimitive 35 = .ok (.ifCond .ne 18, 3) := by decide +kernel
theorem dX7_countPrimitive_38 : decode cX7_countPrimitive 38 = .ok (.aload_n 0, 1) := by decide +kernel
theorem dX7_countPrimitive_39 : decode cX7_countPrimitive 39 = .ok (.getfield 18, 3) := by decide +kernel
theorem dX7_countPrimitive_42 : decode cX7_countPrimitive 42 = .ok (.iload_n 2, 1) := by decide +kernel
theorem dX7_countPrimitive_43 : decode cX7_countPrimitive 43 = .ok (.dup2, 1) := by decide +kernel
theorem dX7_countPrimitive_44 : decode cX7_countPrimitive 44 = .ok (.laload, 1) := by decide +kernel
theorem dX7_countPrimitive_45 : decode cX7_countPrimitive 45 = .ok (.aload_n 0, 1) := by decide +kernel
theorem dX7_countPrimitive_46 : decode cX7_countPrimitive 46 = .ok (.getfield 18, 3) := by decide +kernel
theorem dX7_countPrimitive_49 : decode cX7_countPrimitive 49 = .ok (.iload_n 3, 1) := by decide +kernel
theorem dX7_countPrimitive_50 : decode cX7_countPrimitive 50 = .ok (.laload, 1) := by decide +kernel
theorem dX7_countPrimitive_51 : decode cX7_countPrimitive 51 = .ok (.lsub, 1) := by decide +kernel
theorem dX7_countPrimitive_52 : decode cX7_countPrimitive 52 = .ok (.lastore, 1) := by decide +kernel
theorem dX7_countPrimitive_53 : decode cX7_countPrimitive 53 = .ok (.iinc 3 1, 3) := by decide +kernel
theorem dX7_countPrimitive_56 : decode cX7_countPrimitive 56 = .ok (.goto (-29), 3) := by decide +kernel
theorem dX7_countPrimitive_59 : decode cX7_countPrimitive 59 = .ok (.iinc 2 1, 3) := by decide +kernel
theorem dX7_countPrimitive_62 : decode cX7_countPrimitive 62 = .ok (.goto (-55), 3) := by decide +kernel
theorem dX7_countPrimitive_65 : decode cX7_countPrimitive 65 = .ok (.return_, 1) := by decide +kernel
theorem dX7_countPrimitiveSigned_0 : decode cX7_countPrimitiveSigned 0 = .ok (.aload_n 0, 1) := by decide +kernel
theorem dX7_countPrimitiveSigned_1 : decode cX7_countPrimitiveSigned 1 = .ok (.aload_n 1, 1) := by decide +kernel
theorem dX7_countPrimitiveSigned_2 : decode cX7_countPrimitiveSigned 2 = .ok (.invokevirtual 38, 3) := by decide +kernel
theorem dX7_countPrimitiveSigned_5 : decode cX7_countPrimitiveSigned 5 = .ok (.aload_n 0, 1) := by decide +kernel
theorem dX7_countPrimitiveSigned_6 : decode cX7_countPrimitiveSigned 6 = .ok (.aload_n 1, 1) := by decide +kernel
theorem dX7_countPrimitiveSigned_7 : decode cX7_countPrimitiveSigned 7 = .ok (.invokevirtual 41, 3) := by decide +kernel
theorem dX7_countPrimitiveSigned_10 : decode cX7_countPrimitiveSigned 10 = .ok (.iconst 1, 1) := by decide +kernel
theorem dX7_countPrimitiveSigned_11 : decode cX7_countPrimitiveSigned 11 = .ok (.istore_n 2, 1) := by decide +kernel
theorem dX7_countPrimitiveSigned_12 : decode cX7_countPrimitiveSigned 12 = .ok (.iload_n 2, 1) := by decide +kernel
theorem dX7_countPrimitiveSigned_13 : decode cX7_countPrimitiveSigned 13 = .ok (.bipush 18, 2) := by decide +kernel
theorem dX7_countPrimitiveSigned_15 : decode cX7_countPrimitiveSigned 15 = .ok (.if_icmp .gt 84, 3) := by decide +kernel
theorem dX7_countPrimitiveSigned_18 : decode cX7_countPrimitiveSigned 18 = .ok (.aload_n 0, 1) := by decide +kernel
theorem dX7_countPrimitiveSigned_19 : decode cX7_countPrimitiveSigned 19 = .ok (.getfield 21, 3) := by decide +kernel
theorem dX7_countPrimitiveSigned_22 : decode cX7_countPrimitiveSigned 22 = .ok (.iload_n 2, 1) := by decide +kernel
theorem dX7_countPrimitiveSigned_23 : decode cX7_countPrimitiveSigned 23 = .ok (.aload_n 0, 1) := by decide +kernel
theorem dX7_countPrimitiveSigned_24 : decode cX7_countPrimitiveSigned 24 = .ok (.getfield 15, 3) := by decide +kernel
theorem dX7_countPrimitiveSigned_27 : decode cX7_countPrimitiveSigned 27 = .ok (.iload_n 2, 1) := by decide +kernel
theorem dX7_countPrimitiveSigned_28 : decode cX7_countPrimitiveSigned 28 = .ok (.laload, 1) := by decide +kernel
theorem dX7_countPrimitiveSigned_29 : decode cX7_countPrimitiveSigned 29 = .ok (.lastore, 1) := by decide +kernel
theorem dX7_countPrimitiveSigned_30 : decode cX7_countPrimitiveSigned 30 = .ok (.iconst 1, 1) := by decide +kernel
theorem dX7_countPrimitiveSigned_31 : decode cX7_countPrimitiveSigned 31 = .ok (.istore_n 3, 1) := by decide +kernel
theorem dX7_countPrimitiveSigned_32 : decode cX7_countPrimitiveSigned 32 = .ok (.iload_n 3, 1) := by decide +kernel
theorem dX7_countPrimitiveSigned_33 : decode cX7_countPrimitiveSigned 33 = .ok (.iload_n 2, 1) := by decide +kernel
theorem dX7_countPrimitiveSigned_34 : decode cX7_countPrimitiveSigned 34 = .ok (.if_icmp .ge 59, 3) := by decide +kernel
theorem dX7_countPrimitiveSigned_37 : decode cX7_countPrimitiveSigned 37 = .ok (.iload_n 2, 1) := by decide +kernel
theorem dX7_countPrimitiveSigned_38 : decode cX7_countPrimitiveSigned 38 = .ok (.iload_n 3, 1) := by decide +kernel
theorem dX7_countPrimitiveSigned_39 : decode cX7_countPrimitiveSigned 39 = .ok (.irem, 1) := by decide +kernel
theorem dX7_countPrimitiveSigned_40 : decode cX7_countPrimitiveSigned 40 = .ok (.ifCond .ne 47, 3) := by decide +kernel
theorem dX7_countPrimitiveSigned_43 : decode cX7_countPrimitiveSigned 43 = .ok (.iload_n 2, 1) := by decide +kernel
theorem dX7_countPrimitiveSigned_44 : decode cX7_countPrimitiveSigned 44 = .ok (.iload_n 3, 1) := by decide +kernel
theorem dX7_countPrimitiveSigned_45 : decode cX7_countPrimitiveSigned 45 = .ok (.idiv, 1) := by decide +kernel
theorem dX7_countPrimitiveSigned_46 : decode cX7_countPrimitiveSigned 46 = .ok (.iconst 2, 1) := by decide +kernel
theorem dX7_countPrimitiveSigned_47 : decode cX7_countPrimitiveSigned 47 = .ok (.irem, 1) := by decide +kernel
theorem dX7_countPrimitiveSigned_48 : decode cX7_countPrimitiveSigned 48 = .ok (.ifCond .ne 7, 3) := by decide +kernel
theorem dX7_countPrimitiveSigned_51 : decode cX7_countPrimitiveSigned 51 = .ok (.iconst 1, 1) := by decide +kernel
theorem dX7_countPrimitiveSigned_52 : decode cX7_countPrimitiveSigned 52 = .ok (.goto 4, 3) := by decide +kernel
theorem dX7_countPrimitiveSigned_55 : decode cX7_countPrimitiveSigned 55 = .ok (.iconst 0, 1) := by decide +kernel
theorem dX7_countPrimitiveSigned_56 : decode cX7_countPrimitiveSigned 56 = .ok (.istore 4, 2) := by decide +kernel
theorem dX7_countPrimitiveSigned_58 : decode cX7_countPrimitiveSigned 58 = .ok (.aload_n 0, 1) := by decide +kernel
theorem dX7_countPrimitiveSigned_59 : decode cX7_countPrimitiveSigned 59 = .ok (.getfield 21, 3) := by decide +kernel
theorem dX7_countPrimitiveSigned_62 : decode cX7_countPrimitiveSigned 62 = .ok (.iload_n 2, 1) := by decide +kernel
theorem dX7_countPrimitiveSigned_63 : decode cX7_countPrimitiveSigned 63 = .ok (.dup2, 1) := by decide +kernel
theorem dX7_countPrimitiveSigned_64 : decode cX7_countPrimitiveSigned 64 = .ok (.laload, 1) := by decide +kernel
theorem dX7_countPrimitiveSigned_65 : decode cX7_countPrimitiveSigned 65 = .ok (.iload 4, 2) := by decide +kernel
theorem dX7_countPrimitiveSigned_67 : decode cX7_countPrimitiveSigned 67 = .ok (.ifCond .eq 12, 3) := by decide +kernel
theorem dX7_countPrimitiveSigned_70 : decode cX7_countPrimitiveSigned 70 = .ok (.aload_n 0, 1) := by decide +kernel
theorem dX7_countPrimitiveSigned_71 : decode cX7_countPrimitiveSigned 71 = .ok (.getfield 18, 3) := by decide +kernel
theorem dX7_countPrimitiveSigned_74 : decode cX7_countPrimitiveSigned 74 = .ok (.iload_n 3, 1) := by decide +kernel
theorem dX7_countPrimitiveSigned_75 : decode cX7_countPrimitiveSigned 75 = .ok (.laload, 1) := by decide +kernel
theorem dX7_countPrimitiveSigned_76 : decode cX7_countPrimitiveSigned 76 = .ok (.goto 9, 3) := by decide +kernel
theorem dX7_countPrimitiveSigned_79 : decode cX7_countPrimitiveSigned 79 = .ok (.aload_n 0, 1) := by decide +kernel
theorem dX7_countPrimitiveSigned_80 : decode cX7_countPrimitiveSigned 80 = .ok (.getfield 21, 3) := by decide +kernel
theorem dX7_countPrimitiveSigned_83 : decode cX7_countPrimitiveSigned 83 = .ok (.iload_n 3, 1) := by decide +kernel
theorem dX7_countPrimitiveSigned_84 : decode cX7_countPrimitiveSigned 84 = .ok (.laload, 1) := by decide +kernel
theorem dX7_countPrimitiveSigned_85 : decode cX7_countPrimitiveSigned 85 = .ok (.lsub, 1) := by decide +kernel
theorem dX7_countPrimitiveSigned_86 : decode cX7_countPrimitiveSigned 86 = .ok (.lastore, 1) := by decide +kernel
theorem dX7_countPrimitiveSigned_87 : decode cX7_countPrimitiveSigned 87 = .ok (.iinc 3 1, 3) := by decide +kernel
theorem dX7_countPrimitiveSigned_90 : decode cX7_countPrimitiveSigned 90 = .ok (.goto (-58), 3) := by decide +kernel
theorem dX7_countPrimitiveSigned_93 : decode cX7_countPrimitiveSigned 93 = .ok (.iinc 2 1, 3) := by decide +kernel
theorem dX7_countPrimitiveSigned_96 : decode cX7_countPrimitiveSigned 96 = .ok (.goto (-84), 3) := by decide +kernel
theorem dX7_countPrimitiveSigned_99 : decode cX7_countPrimitiveSigned 99 = .ok (.return_, 1) := by decide +kernel
theorem dX7_addReturns_0 : decode cX7_addReturns 0 = .ok (.aload_n 3, 1) := by decide +kernel
theorem dX7_addReturns_1 : decode cX7_addReturns 1 = .ok (.lconst 0, 1) := by decide +kernel
theorem dX7_addReturns_2 : decode cX7_addReturns 2 = .ok (.invokestatic 44, 3) := by decide +kernel
theorem dX7_addReturns_5 : decode cX7_addReturns 5 = .ok (.iconst 0, 1) := by decide +kernel
theorem dX7_addReturns_6 : decode cX7_addReturns 6 = .ok (.istore 4, 2) := by decide +kernel
theorem dX7_addReturns_8 : decode cX7_addReturns 8 = .ok (.iload 4, 2) := by decide +kernel
theorem dX7_addReturns_10 : decode cX7_addReturns 10 = .ok (.aload_n 1, 1) := by decide +kernel
theorem dX7_addReturns_11 : decode cX7_addReturns 11 = .ok (.getfield 50, 3) := by decide +kernel
theorem dX7_addReturns_14 : decode cX7_addReturns 14 = .ok (.if_icmp .ge 71, 3) := by decide +kernel
theorem dX7_addReturns_17 : decode cX7_addReturns 17 = .ok (.iconst 2, 1) := by decide +kernel
theorem dX7_addReturns_18 : decode cX7_addReturns 18 = .ok (.iload 4, 2) := by decide +kernel
theorem dX7_addReturns_20 : decode cX7_addReturns 20 = .ok (.imul, 1) := by decide +kernel
theorem dX7_addReturns_21 : decode cX7_addReturns 21 = .ok (.istore 5, 2) := by decide +kernel
theorem dX7_addReturns_23 : decode cX7_addReturns 23 = .ok (.aload_n 0, 1) := by decide +kernel
theorem dX7_addReturns_24 : decode cX7_addReturns 24 = .ok (.getfield 24, 3) := by decide +kernel
theorem dX7_addReturns_27 : decode cX7_addReturns 27 = .ok (.lconst 0, 1) := by decide +kernel
theorem dX7_addReturns_28 : decode cX7_addReturns 28 = .ok (.invokestatic 44, 3) := by decide +kernel
theorem dX7_addReturns_31 : decode cX7_addReturns 31 = .ok (.aload_n 0, 1) := by decide +kernel
theorem dX7_addReturns_32 : decode cX7_addReturns 32 = .ok (.getfield 24, 3) := by decide +kernel
theorem dX7_addReturns_35 : decode cX7_addReturns 35 = .ok (.iload 5, 2) := by decide +kernel
theorem dX7_addReturns_37 : decode cX7_addReturns 37 = .ok (.lconst 1, 1) := by decide +kernel
theorem dX7_addReturns_38 : decode cX7_addReturns 38 = .ok (.lastore, 1) := by decide +kernel
theorem dX7_addReturns_39 : decode cX7_addReturns 39 = .ok (.iconst 1, 1) := by decide +kernel
theorem dX7_addReturns_40 : decode cX7_addReturns 40 = .ok (.istore 6, 2) := by decide +kernel
theorem dX7_addReturns_42 : decode cX7_addReturns 42 = .ok (.iload 6, 2) := by decide +kernel
theorem dX7_addReturns_44 : decode cX7_addReturns 44 = .ok (.bipush 18, 2) := by decide +kernel
theorem dX7_addReturns_46 : decode cX7_addReturns 46 = .ok (.if_icmp .gt 33, 3) := by decide +kernel
theorem dX7_addReturns_49 : decode cX7_addReturns 49 = .ok (.aload_n 0, 1) := by decide +kernel
theorem dX7_addReturns_50 : decode cX7_addReturns 50 = .ok (.aload_n 1, 1) := by decide +kernel
theorem dX7_addReturns_51 : decode cX7_addReturns 51 = .ok (.iload_n 2, 1) := by decide +kernel
theorem dX7_addReturns_52 : decode cX7_addReturns 52 = .ok (.invokevirtual 56, 3) := by decide +kernel
theorem dX7_addReturns_55 : decode cX7_addReturns 55 = .ok (.aload_n 3, 1) := by decide +kernel
theorem dX7_addReturns_56 : decode cX7_addReturns 56 = .ok (.iload 6, 2) := by decide +kernel
theorem dX7_addReturns_58 : decode cX7_addReturns 58 = .ok (.dup2, 1) := by decide +kernel
theorem dX7_addReturns_59 : decode cX7_addReturns 59 = .ok (.laload, 1) := by decide +kernel
theorem dX7_addReturns_60 : decode cX7_addReturns 60 = .ok (.ldc2_w 60, 3) := by decide +kernel
theorem dX7_addReturns_63 : decode cX7_addReturns 63 = .ok (.aload_n 0, 1) := by decide +kernel
theorem dX7_addReturns_64 : decode cX7_addReturns 64 = .ok (.getfield 24, 3) := by decide +kernel
theorem dX7_addReturns_67 : decode cX7_addReturns 67 = .ok (.iload 5, 2) := by decide +kernel
theorem dX7_addReturns_69 : decode cX7_addReturns 69 = .ok (.laload, 1) := by decide +kernel
theorem dX7_addReturns_70 : decode cX7_addReturns 70 = .ok (.lmul, 1) := by decide +kernel
theorem dX7_addReturns_71 : decode cX7_addReturns 71 = .ok (.ladd, 1) := by decide +kernel
theorem dX7_addReturns_72 : decode cX7_addReturns 72 = .ok (.lastore, 1) := by decide +kernel
theorem dX7_addReturns_73 : decode cX7_addReturns 73 = .ok (.iinc 6 1, 3) := by decide +kernel
theorem dX7_addReturns_76 : decode cX7_addReturns 76 = .ok (.goto (-34), 3) := by decide +kernel
theorem dX7_addReturns_79 : decode cX7_addReturns 79 = .ok (.iinc 4 1, 3) := by decide +kernel
theorem dX7_addReturns_82 : decode cX7_addReturns 82 = .ok (.goto (-74), 3) := by decide +kernel
theorem dX7_addReturns_85 : decode cX7_addReturns 85 = .ok (.return_, 1) := by decide +kernel
theorem dX7_goOn_0 : decode cX7_goOn 0 = .ok (.aload_n 0, 1) := by decide +kernel
theorem dX7_goOn_1 : decode cX7_goOn 1 = .ok (.getfield 27, 3) := by decide +kernel
theorem dX7_goOn_4 : decode cX7_goOn 4 = .ok (.lconst 0, 1) := by decide +kernel
theorem dX7_goOn_5 : decode cX7_goOn 5 = .ok (.invokestatic 44, 3) := by decide +kernel
theorem dX7_goOn_8 : decode cX7_goOn 8 = .ok (.iconst 0, 1) := by decide +kernel
theorem dX7_goOn_9 : decode cX7_goOn 9 = .ok (.istore_n 3, 1) := by decide +kernel
theorem dX7_goOn_10 : decode cX7_goOn 10 = .ok (.iload_n 3, 1) := by decide +kernel
theorem dX7_goOn_11 : decode cX7_goOn 11 = .ok (.iconst 2, 1) := by decide +kernel
theorem dX7_goOn_12 : decode cX7_goOn 12 = .ok (.aload_n 1, 1) := by decide +kernel
theorem dX7_goOn_13 : decode cX7_goOn 13 = .ok (.getfield 50, 3) := by decide +kernel
theorem dX7_goOn_16 : decode cX7_goOn 16 = .ok (.imul, 1) := by decide +kernel
theorem dX7_goOn_17 : decode cX7_goOn 17 = .ok (.if_icmp .ge 28, 3) := by decide +kernel
theorem dX7_goOn_20 : decode cX7_goOn 20 = .ok (.aload_n 0, 1) := by decide +kernel
theorem dX7_goOn_21 : decode cX7_goOn 21 = .ok (.getfield 27, 3) := by decide +kernel
theorem dX7_goOn_24 : decode cX7_goOn 24 = .ok (.aload_n 1, 1) := by decide +kernel
theorem dX7_goOn_25 : decode cX7_goOn 25 = .ok (.iload_n 3, 1) := by decide +kernel
theorem dX7_goOn_26 : decode cX7_goOn 26 = .ok (.invokevirtual 62, 3) := by decide +kernel
theorem dX7_goOn_29 : decode cX7_goOn 29 = .ok (.dup2, 1) := by decide +kernel
theorem dX7_goOn_30 : decode cX7_goOn 30 = .ok (.laload, 1) := by decide +kernel
theorem dX7_goOn_31 : decode cX7_goOn 31 = .ok (.aload_n 0, 1) := by decide +kernel
theorem dX7_goOn_32 : decode cX7_goOn 32 = .ok (.getfield 24, 3) := by decide +kernel
theorem dX7_goOn_35 : decode cX7_goOn 35 = .ok (.iload_n 3, 1) := by decide +kernel
theorem dX7_goOn_36 : decode cX7_goOn 36 = .ok (.laload, 1) := by decide +kernel
theorem dX7_goOn_37 : decode cX7_goOn 37 = .ok (.ladd, 1) := by decide +kernel
theorem dX7_goOn_38 : decode cX7_goOn 38 = .ok (.lastore, 1) := by decide +kernel
theorem dX7_goOn_39 : decode cX7_goOn 39 = .ok (.iinc 3 1, 3) := by decide +kernel
theorem dX7_goOn_42 : decode cX7_goOn 42 = .ok (.goto (-32), 3) := by decide +kernel
theorem dX7_goOn_45 : decode cX7_goOn 45 = .ok (.iconst 0, 1) := by decide +kernel
theorem dX7_goOn_46 : decode cX7_goOn 46 = .ok (.istore_n 3, 1) := by decide +kernel
theorem dX7_goOn_47 : decode cX7_goOn 47 = .ok (.iload_n 3, 1) := by decide +kernel
theorem dX7_goOn_48 : decode cX7_goOn 48 = .ok (.aload_n 1, 1) := by decide +kernel
theorem dX7_goOn_49 : decode cX7_goOn 49 = .ok (.getfield 50, 3) := by decide +kernel
theorem dX7_goOn_52 : decode cX7_goOn 52 = .ok (.if_icmp .ge 104, 3) := by decide +kernel
theorem dX7_goOn_55 : decode cX7_goOn 55 = .ok (.iconst 2, 1) := by decide +kernel
theorem dX7_goOn_56 : decode cX7_goOn 56 = .ok (.iload_n 3, 1) := by decide +kernel
theorem dX7_goOn_57 : decode cX7_goOn 57 = .ok (.imul, 1) := by decide +kernel
theorem dX7_goOn_58 : decode cX7_goOn 58 = .ok (.istore 4, 2) := by decide +kernel
theorem dX7_goOn_60 : decode cX7_goOn 60 = .ok (.iconst 2, 1) := by decide +kernel
theorem dX7_goOn_61 : decode cX7_goOn 61 = .ok (.iload_n 3, 1) := by decide +kernel
theorem dX7_goOn_62 : decode cX7_goOn 62 = .ok (.imul, 1) := by decide +kernel
theorem dX7_goOn_63 : decode cX7_goOn 63 = .ok (.iconst 1, 1) := by decide +kernel
theorem dX7_goOn_64 : decode cX7_goOn 64 = .ok (.iadd, 1) := by decide +kernel
theorem dX7_goOn_65 : decode cX7_goOn 65 = .ok (.istore 5, 2) := by decide +kernel
theorem dX7_goOn_67 : decode cX7_goOn 67 = .ok (.iload_n 2, 1) := by decide +kernel
theorem dX7_goOn_68 : decode cX7_goOn 68 = .ok (.ifCond .eq 13, 3) := by decide +kernel
theorem dX7_goOn_71 : decode cX7_goOn 71 = .ok (.aload_n 1, 1) := by decide +kernel
theorem dX7_goOn_72 : decode cX7_goOn 72 = .ok (.getfield 66, 3) := by decide +kernel
theorem dX7_goOn_75 : decode cX7_goOn 75 = .ok (.iload_n 3, 1) := by decide +kernel
theorem dX7_goOn_76 : decode cX7_goOn 76 = .ok (.iaload, 1) := by decide +kernel
theorem dX7_goOn_77 : decode cX7_goOn 77 = .ok (.i2l, 1) := by decide +kernel
theorem dX7_goOn_78 : decode cX7_goOn 78 = .ok (.goto 4, 3) := by decide +kernel
theorem dX7_goOn_81 : decode cX7_goOn 81 = .ok (.lconst 1, 1) := by decide +kernel
theorem dX7_goOn_82 : decode cX7_goOn 82 = .ok (.lstore 6, 2) := by decide +kernel
theorem dX7_goOn_84 : decode cX7_goOn 84 = .ok (.aload_n 0, 1) := by decide +kernel
theorem dX7_goOn_85 : decode cX7_goOn 85 = .ok (.getfield 27, 3) := by decide +kernel
theorem dX7_goOn_88 : decode cX7_goOn 88 = .ok (.aload_n 1, 1) := by decide +kernel
theorem dX7_goOn_89 : decode cX7_goOn 89 = .ok (.iload 4, 2) := by decide +kernel
theorem dX7_goOn_91 : decode cX7_goOn 91 = .ok (.invokevirtual 70, 3) := by decide +kernel
theorem dX7_goOn_94 : decode cX7_goOn 94 = .ok (.laload, 1) := by decide +kernel
theorem dX7_goOn_95 : decode cX7_goOn 95 = .ok (.aload_n 0, 1) := by decide +kernel
theorem dX7_goOn_96 : decode cX7_goOn 96 = .ok (.getfield 24, 3) := by decide +kernel
theorem dX7_goOn_99 : decode cX7_goOn 99 = .ok (.iload 5, 2) := by decide +kernel
theorem dX7_goOn_101 : decode cX7_goOn 101 = .ok (.laload, 1) := by decide +kernel
theorem dX7_goOn_102 : decode cX7_goOn 102 = .ok (.lsub, 1) := by decide +kernel
theorem dX7_goOn_103 : decode cX7_goOn 103 = .ok (.lstore 8, 2) := by decide +kernel
theorem dX7_goOn_105 : decode cX7_goOn 105 = .ok (.aload_n 0, 1) := by decide +kernel
theorem dX7_goOn_106 : decode cX7_goOn 106 = .ok (.getfield 27, 3) := by decide +kernel
theorem dX7_goOn_109 : decode cX7_goOn 109 = .ok (.aload_n 1, 1) := by decide +kernel
theorem dX7_goOn_110 : decode cX7_goOn 110 = .ok (.iload 5, 2) := by decide +kernel
theorem dX7_goOn_112 : decode cX7_goOn 112 = .ok (.invokevirtual 70, 3) := by decide +kernel
theorem dX7_goOn_115 : decode cX7_goOn 115 = .ok (.laload, 1) := by decide +kernel
theorem dX7_goOn_116 : decode cX7_goOn 116 = .ok (.aload_n 0, 1) := by decide +kernel
theorem dX7_goOn_117 : decode cX7_goOn 117 = .ok (.getfield 24, 3) := by decide +kernel
theorem dX7_goOn_120 : decode cX7_goOn 120 = .ok (.iload 4, 2) := by decide +kernel
theorem dX7_goOn_122 : decode cX7_goOn 122 = .ok (.laload, 1) := by decide +kernel
theorem dX7_goOn_123 : decode cX7_goOn 123 = .ok (.lsub, 1) := by decide +kernel
theorem dX7_goOn_124 : decode cX7_goOn 124 = .ok (.lstore 10, 2) := by decide +kernel
theorem dX7_goOn_126 : decode cX7_goOn 126 = .ok (.aload_n 0, 1) := by decide +kernel
theorem dX7_goOn_127 : decode cX7_goOn 127 = .ok (.getfield 24, 3) := by decide +kernel
theorem dX7_goOn_130 : decode cX7_goOn 130 = .ok (.iload 4, 2) := by decide +kernel
theorem dX7_goOn_132 : decode cX7_goOn 132 = .ok (.lload 6, 2) := by decide +kernel
theorem dX7_goOn_134 : decode cX7_goOn 134 = .ok (.lload 8, 2) := by decide +kernel
theorem dX7_goOn_136 : decode cX7_goOn 136 = .ok (.lmul, 1) := by decide +kernel
theorem dX7_goOn_137 : decode cX7_goOn 137 = .ok (.lastore, 1) := by decide +kernel
theorem dX7_goOn_138 : decode cX7_goOn 138 = .ok (.aload_n 0, 1) := by decide +kernel
theorem dX7_goOn_139 : decode cX7_goOn 139 = .ok (.getfield 24, 3) := by decide +kernel
theorem dX7_goOn_142 : decode cX7_goOn 142 = .ok (.iload 5, 2) := by decide +kernel
theorem dX7_goOn_144 : decode cX7_goOn 144 = .ok (.lload 6, 2) := by decide +kernel
theorem dX7_goOn_146 : decode cX7_goOn 146 = .ok (.lload 10, 2) := by decide +kernel
theorem dX7_goOn_148 : decode cX7_goOn 148 = .ok (.lmul, 1) := by decide +kernel
theorem dX7_goOn_149 : decode cX7_goOn 149 = .ok (.lastore, 1) := by decide +kernel
theorem dX7_goOn_150 : decode cX7_goOn 150 = .ok (.iinc 3 1, 3) := by decide +kernel
theorem dX7_goOn_153 : decode cX7_goOn 153 = .ok (.goto (-106), 3) := by decide +kernel
theorem dX7_goOn_156 : decode cX7_goOn 156 = .ok (.return_, 1) := by decide +kernel
