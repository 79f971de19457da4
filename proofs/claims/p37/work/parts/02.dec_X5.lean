theorem dX5_init_0 : decode cX5_init 0 = .ok (.aload_n 0, 1) := by decide +kernel
theorem dX5_init_1 : decode cX5_init 1 = .ok (.invokespecial 3, 3) := by decide +kernel
theorem dX5_init_4 : decode cX5_init 4 = .ok (.aload_n 0, 1) := by decide +kernel
theorem dX5_init_5 : decode cX5_init 5 = .ok (.iconst 5, 1) := by decide +kernel
theorem dX5_init_6 : decode cX5_init 6 = .ok (.newarray .int, 2) := by decide +kernel
theorem dX5_init_8 : decode cX5_init 8 = .ok (.putfield 9, 3) := by decide +kernel
theorem dX5_init_11 : decode cX5_init 11 = .ok (.return_, 1) := by decide +kernel
theorem dX5_find_0 : decode cX5_find 0 = .ok (.aload_n 0, 1) := by decide +kernel
theorem dX5_find_1 : decode cX5_find 1 = .ok (.iload_n 3, 1) := by decide +kernel
theorem dX5_find_2 : decode cX5_find 2 = .ok (.putfield 15, 3) := by decide +kernel
theorem dX5_find_5 : decode cX5_find 5 = .ok (.aload_n 0, 1) := by decide +kernel
theorem dX5_find_6 : decode cX5_find 6 = .ok (.aload_n 1, 1) := by decide +kernel
theorem dX5_find_7 : decode cX5_find 7 = .ok (.iload_n 2, 1) := by decide +kernel
theorem dX5_find_8 : decode cX5_find 8 = .ok (.iconst 0, 1) := by decide +kernel
theorem dX5_find_9 : decode cX5_find 9 = .ok (.iconst 1, 1) := by decide +kernel
theorem dX5_find_10 : decode cX5_find 10 = .ok (.invokevirtual 19, 3) := by decide +kernel
theorem dX5_find_13 : decode cX5_find 13 = .ok (.ireturn, 1) := by decide +kernel
theorem dX5_signOfWord_0 : decode cX5_signOfWord 0 = .ok (.iconst 1, 1) := by decide +kernel
theorem dX5_signOfWord_1 : decode cX5_signOfWord 1 = .ok (.istore_n 3, 1) := by decide +kernel
theorem dX5_signOfWord_2 : decode cX5_signOfWord 2 = .ok (.iconst 0, 1) := by decide +kernel
theorem dX5_signOfWord_3 : decode cX5_signOfWord 3 = .ok (.istore 4, 2) := by decide +kernel
theorem dX5_signOfWord_5 : decode cX5_signOfWord 5 = .ok (.iload 4, 2) := by decide +kernel
theorem dX5_signOfWord_7 : decode cX5_signOfWord 7 = .ok (.iload_n 2, 1) := by decide +kernel
theorem dX5_signOfWord_8 : decode cX5_signOfWord 8 = .ok (.if_icmp .ge 26, 3) := by decide +kernel
theorem dX5_signOfWord_11 : decode cX5_signOfWord 11 = .ok (.iload_n 3, 1) := by decide +kernel
theorem dX5_signOfWord_12 : decode cX5_signOfWord 12 = .ok (.aload_n 1, 1) := by decide +kernel
theorem dX5_signOfWord_13 : decode cX5_signOfWord 13 = .ok (.getfield 23, 3) := by decide +kernel
theorem dX5_signOfWord_16 : decode cX5_signOfWord 16 = .ok (.aload_n 0, 1) := by decide +kernel
theorem dX5_signOfWord_17 : decode cX5_signOfWord 17 = .ok (.getfield 9, 3) := by decide +kernel
theorem dX5_signOfWord_20 : decode cX5_signOfWord 20 = .ok (.iload 4, 2) := by decide +kernel
theorem dX5_signOfWord_22 : decode cX5_signOfWord 22 = .ok (.iaload, 1) := by decide +kernel
theorem dX5_signOfWord_23 : decode cX5_signOfWord 23 = .ok (.iconst 2, 1) := by decide +kernel
theorem dX5_signOfWord_24 : decode cX5_signOfWord 24 = .ok (.idiv, 1) := by decide +kernel
theorem dX5_signOfWord_25 : decode cX5_signOfWord 25 = .ok (.iaload, 1) := by decide +kernel
theorem dX5_signOfWord_26 : decode cX5_signOfWord 26 = .ok (.imul, 1) := by decide +kernel
theorem dX5_signOfWord_27 : decode cX5_signOfWord 27 = .ok (.istore_n 3, 1) := by decide +kernel
theorem dX5_signOfWord_28 : decode cX5_signOfWord 28 = .ok (.iinc 4 1, 3) := by decide +kernel
theorem dX5_signOfWord_31 : decode cX5_signOfWord 31 = .ok (.goto (-26), 3) := by decide +kernel
theorem dX5_signOfWord_34 : decode cX5_signOfWord 34 = .ok (.iload_n 3, 1) := by decide +kernel
theorem dX5_signOfWord_35 : decode cX5_signOfWord 35 = .ok (.ireturn, 1) := by decide +kernel
theorem dX5_extend_0 : decode cX5_extend 0 = .ok (.iload_n 3, 1) := by decide +kernel
theorem dX5_extend_1 : decode cX5_extend 1 = .ok (.iload_n 2, 1) := by decide +kernel
theorem dX5_extend_2 : decode cX5_extend 2 = .ok (.if_icmp .lt 12, 3) := by decide +kernel
theorem dX5_extend_5 : decode cX5_extend 5 = .ok (.aload_n 0, 1) := by decide +kernel
theorem dX5_extend_6 : decode cX5_extend 6 = .ok (.aload_n 1, 1) := by decide +kernel
theorem dX5_extend_7 : decode cX5_extend 7 = .ok (.iload_n 2, 1) := by decide +kernel
theorem dX5_extend_8 : decode cX5_extend 8 = .ok (.iload 4, 2) := by decide +kernel
theorem dX5_extend_10 : decode cX5_extend 10 = .ok (.invokevirtual 28, 3) := by decide +kernel
theorem dX5_extend_13 : decode cX5_extend 13 = .ok (.ireturn, 1) := by decide +kernel
theorem dX5_extend_14 : decode cX5_extend 14 = .ok (.iload_n 3, 1) := by decide +kernel
theorem dX5_extend_15 : decode cX5_extend 15 = .ok (.ifCond .ne 7, 3) := by decide +kernel
theorem dX5_extend_18 : decode cX5_extend 18 = .ok (.iconst 0, 1) := by decide +kernel
theorem dX5_extend_19 : decode cX5_extend 19 = .ok (.goto 12, 3) := by decide +kernel
theorem dX5_extend_22 : decode cX5_extend 22 = .ok (.aload_n 0, 1) := by decide +kernel
theorem dX5_extend_23 : decode cX5_extend 23 = .ok (.getfield 9, 3) := by decide +kernel
theorem dX5_extend_26 : decode cX5_extend 26 = .ok (.iload_n 3, 1) := by decide +kernel
theorem dX5_extend_27 : decode cX5_extend 27 = .ok (.iload 4, 2) := by decide +kernel
theorem dX5_extend_29 : decode cX5_extend 29 = .ok (.isub, 1) := by decide +kernel
theorem dX5_extend_30 : decode cX5_extend 30 = .ok (.iaload, 1) := by decide +kernel
theorem dX5_extend_31 : decode cX5_extend 31 = .ok (.istore 5, 2) := by decide +kernel
theorem dX5_extend_33 : decode cX5_extend 33 = .ok (.iload 5, 2) := by decide +kernel
theorem dX5_extend_35 : decode cX5_extend 35 = .ok (.istore 6, 2) := by decide +kernel
theorem dX5_extend_37 : decode cX5_extend 37 = .ok (.iload 6, 2) := by decide +kernel
theorem dX5_extend_39 : decode cX5_extend 39 = .ok (.iconst 2, 1) := by decide +kernel
theorem dX5_extend_40 : decode cX5_extend 40 = .ok (.aload_n 1, 1) := by decide +kernel
theorem dX5_extend_41 : decode cX5_extend 41 = .ok (.getfield 32, 3) := by decide +kernel
theorem dX5_extend_44 : decode cX5_extend 44 = .ok (.imul, 1) := by decide +kernel
theorem dX5_extend_45 : decode cX5_extend 45 = .ok (.if_icmp .ge 86, 3) := by decide +kernel
theorem dX5_extend_48 : decode cX5_extend 48 = .ok (.iload_n 3, 1) := by decide +kernel
theorem dX5_extend_49 : decode cX5_extend 49 = .ok (.ifCond .le 23, 3) := by decide +kernel
theorem dX5_extend_52 : decode cX5_extend 52 = .ok (.aload_n 1, 1) := by decide +kernel
theorem dX5_extend_53 : decode cX5_extend 53 = .ok (.aload_n 0, 1) := by decide +kernel
theorem dX5_extend_54 : decode cX5_extend 54 = .ok (.getfield 9, 3) := by decide +kernel
theorem dX5_extend_57 : decode cX5_extend 57 = .ok (.iload_n 3, 1) := by decide +kernel
theorem dX5_extend_58 : decode cX5_extend 58 = .ok (.iconst 1, 1) := by decide +kernel
theorem dX5_extend_59 : decode cX5_extend 59 = .ok (.isub, 1) := by decide +kernel
theorem dX5_extend_60 : decode cX5_extend 60 = .ok (.iaload, 1) := by decide +kernel
theorem dX5_extend_61 : decode cX5_extend 61 = .ok (.iload 6, 2) := by decide +kernel
theorem dX5_extend_63 : decode cX5_extend 63 = .ok (.invokevirtual 35, 3) := by decide +kernel
theorem dX5_extend_66 : decode cX5_extend 66 = .ok (.ifCond .ne 6, 3) := by decide +kernel
theorem dX5_extend_69 : decode cX5_extend 69 = .ok (.goto 56, 3) := by decide +kernel
theorem dX5_extend_72 : decode cX5_extend 72 = .ok (.aload_n 0, 1) := by decide +kernel
theorem dX5_extend_73 : decode cX5_extend 73 = .ok (.getfield 9, 3) := by decide +kernel
theorem dX5_extend_76 : decode cX5_extend 76 = .ok (.iload_n 3, 1) := by decide +kernel
theorem dX5_extend_77 : decode cX5_extend 77 = .ok (.iload 6, 2) := by decide +kernel
theorem dX5_extend_79 : decode cX5_extend 79 = .ok (.iastore, 1) := by decide +kernel
theorem dX5_extend_80 : decode cX5_extend 80 = .ok (.iload_n 3, 1) := by decide +kernel
theorem dX5_extend_81 : decode cX5_extend 81 = .ok (.ifCond .le 14, 3) := by decide +kernel
theorem dX5_extend_84 : decode cX5_extend 84 = .ok (.iload 6, 2) := by decide +kernel
theorem dX5_extend_86 : decode cX5_extend 86 = .ok (.iload 5, 2) := by decide +kernel
theorem dX5_extend_88 : decode cX5_extend 88 = .ok (.if_icmp .ne 7, 3) := by decide +kernel
theorem dX5_extend_91 : decode cX5_extend 91 = .ok (.iconst 1, 1) := by decide +kernel
theorem dX5_extend_92 : decode cX5_extend 92 = .ok (.goto 4, 3) := by decide +kernel
theorem dX5_extend_95 : decode cX5_extend 95 = .ok (.iconst 0, 1) := by decide +kernel
theorem dX5_extend_96 : decode cX5_extend 96 = .ok (.istore 7, 2) := by decide +kernel
theorem dX5_extend_98 : decode cX5_extend 98 = .ok (.aload_n 0, 1) := by decide +kernel
theorem dX5_extend_99 : decode cX5_extend 99 = .ok (.aload_n 1, 1) := by decide +kernel
theorem dX5_extend_100 : decode cX5_extend 100 = .ok (.iload_n 2, 1) := by decide +kernel
theorem dX5_extend_101 : decode cX5_extend 101 = .ok (.iload_n 3, 1) := by decide +kernel
theorem dX5_extend_102 : decode cX5_extend 102 = .ok (.iconst 1, 1) := by decide +kernel
theorem dX5_extend_103 : decode cX5_extend 103 = .ok (.iadd, 1) := by decide +kernel
theorem dX5_extend_104 : decode cX5_extend 104 = .ok (.iload 7, 2) := by decide +kernel
theorem dX5_extend_106 : decode cX5_extend 106 = .ok (.ifCond .eq 8, 3) := by decide +kernel
theorem dX5_extend_109 : decode cX5_extend 109 = .ok (.iload 4, 2) := by decide +kernel
theorem dX5_extend_111 : decode cX5_extend 111 = .ok (.goto 6, 3) := by decide +kernel
theorem dX5_extend_114 : decode cX5_extend 114 = .ok (.iload_n 3, 1) := by decide +kernel
theorem dX5_extend_115 : decode cX5_extend 115 = .ok (.iconst 1, 1) := by decide +kernel
theorem dX5_extend_116 : decode cX5_extend 116 = .ok (.iadd, 1) := by decide +kernel
theorem dX5_extend_117 : decode cX5_extend 117 = .ok (.invokevirtual 19, 3) := by decide +kernel
theorem dX5_extend_120 : decode cX5_extend 120 = .ok (.ifCond .eq 5, 3) := by decide +kernel
theorem dX5_extend_123 : decode cX5_extend 123 = .ok (.iconst 1, 1) := by decide +kernel
theorem dX5_extend_124 : decode cX5_extend 124 = .ok (.ireturn, 1) := by decide +kernel
theorem dX5_extend_125 : decode cX5_extend 125 = .ok (.iinc 6 1, 3) := by decide +kernel
theorem dX5_extend_128 : decode cX5_extend 128 = .ok (.goto (-91), 3) := by decide +kernel
theorem dX5_extend_131 : decode cX5_extend 131 = .ok (.iconst 0, 1) := by decide +kernel
theorem dX5_extend_132 : decode cX5_extend 132 = .ok (.ireturn, 1) := by decide +kernel
theorem dX5_isWanted_0 : decode cX5_isWanted 0 = .ok (.iload_n 3, 1) := by decide +kernel
theorem dX5_isWanted_1 : decode cX5_isWanted 1 = .ok (.iload_n 2, 1) := by decide +kernel
theorem dX5_isWanted_2 : decode cX5_isWanted 2 = .ok (.if_icmp .ne 24, 3) := by decide +kernel
theorem dX5_isWanted_5 : decode cX5_isWanted 5 = .ok (.aload_n 1, 1) := by decide +kernel
theorem dX5_isWanted_6 : decode cX5_isWanted 6 = .ok (.aload_n 0, 1) := by decide +kernel
theorem dX5_isWanted_7 : decode cX5_isWanted 7 = .ok (.getfield 9, 3) := by decide +kernel
theorem dX5_isWanted_10 : decode cX5_isWanted 10 = .ok (.iload_n 2, 1) := by decide +kernel
theorem dX5_isWanted_11 : decode cX5_isWanted 11 = .ok (.iconst 1, 1) := by decide +kernel
theorem dX5_isWanted_12 : decode cX5_isWanted 12 = .ok (.isub, 1) := by decide +kernel
theorem dX5_isWanted_13 : decode cX5_isWanted 13 = .ok (.iaload, 1) := by decide +kernel
theorem dX5_isWanted_14 : decode cX5_isWanted 14 = .ok (.aload_n 0, 1) := by decide +kernel
theorem dX5_isWanted_15 : decode cX5_isWanted 15 = .ok (.getfield 9, 3) := by decide +kernel
theorem dX5_isWanted_18 : decode cX5_isWanted 18 = .ok (.iconst 0, 1) := by decide +kernel
theorem dX5_isWanted_19 : decode cX5_isWanted 19 = .ok (.iaload, 1) := by decide +kernel
theorem dX5_isWanted_20 : decode cX5_isWanted 20 = .ok (.invokevirtual 35, 3) := by decide +kernel
theorem dX5_isWanted_23 : decode cX5_isWanted 23 = .ok (.ifCond .ne 5, 3) := by decide +kernel
theorem dX5_isWanted_26 : decode cX5_isWanted 26 = .ok (.iconst 0, 1) := by decide +kernel
theorem dX5_isWanted_27 : decode cX5_isWanted 27 = .ok (.ireturn, 1) := by decide +kernel
theorem dX5_isWanted_28 : decode cX5_isWanted 28 = .ok (.aload_n 0, 1) := by decide +kernel
theorem dX5_isWanted_29 : decode cX5_isWanted 29 = .ok (.getfield 15, 3) := by decide +kernel
theorem dX5_isWanted_32 : decode cX5_isWanted 32 = .ok (.ifCond .le 15, 3) := by decide +kernel
theorem dX5_isWanted_35 : decode cX5_isWanted 35 = .ok (.aload_n 0, 1) := by decide +kernel
theorem dX5_isWanted_36 : decode cX5_isWanted 36 = .ok (.dup, 1) := by decide +kernel
theorem dX5_isWanted_37 : decode cX5_isWanted 37 = .ok (.getfield 15, 3) := by decide +kernel
theorem dX5_isWanted_40 : decode cX5_isWanted 40 = .ok (.iconst 1, 1) := by decide +kernel
theorem dX5_isWanted_41 : decode cX5_isWanted 41 = .ok (.isub, 1) := by decide +kernel
theorem dX5_isWanted_42 : decode cX5_isWanted 42 = .ok (.putfield 15, 3) := by decide +kernel
theorem dX5_isWanted_45 : decode cX5_isWanted 45 = .ok (.iconst 0, 1) := by decide +kernel
theorem dX5_isWanted_46 : decode cX5_isWanted 46 = .ok (.ireturn, 1) := by decide +kernel
theorem dX5_isWanted_47 : decode cX5_isWanted 47 = .ok (.iconst 1, 1) := by decide +kernel
theorem dX5_isWanted_48 : decode cX5_isWanted 48 = .ok (.ireturn, 1) := by decide +kernel
