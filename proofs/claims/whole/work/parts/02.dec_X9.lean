theorem dX9_init_0 : decode cX9_init 0 = .ok (.aload_n 0, 1) := by decide +kernel
theorem dX9_init_1 : decode cX9_init 1 = .ok (.invokespecial 1, 3) := by decide +kernel
theorem dX9_init_4 : decode cX9_init 4 = .ok (.aload_n 0, 1) := by decide +kernel
theorem dX9_init_5 : decode cX9_init 5 = .ok (.bipush 29, 2) := by decide +kernel
theorem dX9_init_7 : decode cX9_init 7 = .ok (.newarray .int, 2) := by decide +kernel
theorem dX9_init_9 : decode cX9_init 9 = .ok (.putfield 7, 3) := by decide +kernel
theorem dX9_init_12 : decode cX9_init 12 = .ok (.aload_n 0, 1) := by decide +kernel
theorem dX9_init_13 : decode cX9_init 13 = .ok (.bipush 29, 2) := by decide +kernel
theorem dX9_init_15 : decode cX9_init 15 = .ok (.newarray .int, 2) := by decide +kernel
theorem dX9_init_17 : decode cX9_init 17 = .ok (.putfield 13, 3) := by decide +kernel
theorem dX9_init_20 : decode cX9_init 20 = .ok (.aload_n 0, 1) := by decide +kernel
theorem dX9_init_21 : decode cX9_init 21 = .ok (.sipush 232, 3) := by decide +kernel
theorem dX9_init_24 : decode cX9_init 24 = .ok (.newarray .int, 2) := by decide +kernel
theorem dX9_init_26 : decode cX9_init 26 = .ok (.putfield 16, 3) := by decide +kernel
theorem dX9_init_29 : decode cX9_init 29 = .ok (.aload_n 0, 1) := by decide +kernel
theorem dX9_init_30 : decode cX9_init 30 = .ok (.bipush 60, 2) := by decide +kernel
theorem dX9_init_32 : decode cX9_init 32 = .ok (.newarray .int, 2) := by decide +kernel
theorem dX9_init_34 : decode cX9_init 34 = .ok (.putfield 19, 3) := by decide +kernel
theorem dX9_init_37 : decode cX9_init 37 = .ok (.aload_n 0, 1) := by decide +kernel
theorem dX9_init_38 : decode cX9_init 38 = .ok (.bipush 6, 2) := by decide +kernel
theorem dX9_init_40 : decode cX9_init 40 = .ok (.newarray .int, 2) := by decide +kernel
theorem dX9_init_42 : decode cX9_init 42 = .ok (.putfield 22, 3) := by decide +kernel
theorem dX9_init_45 : decode cX9_init 45 = .ok (.aload_n 0, 1) := by decide +kernel
theorem dX9_init_46 : decode cX9_init 46 = .ok (.sipush 324, 3) := by decide +kernel
theorem dX9_init_49 : decode cX9_init 49 = .ok (.newarray .long, 2) := by decide +kernel
theorem dX9_init_51 : decode cX9_init 51 = .ok (.putfield 25, 3) := by decide +kernel
theorem dX9_init_54 : decode cX9_init 54 = .ok (.aload_n 0, 1) := by decide +kernel
theorem dX9_init_55 : decode cX9_init 55 = .ok (.sipush 324, 3) := by decide +kernel
theorem dX9_init_58 : decode cX9_init 58 = .ok (.newarray .long, 2) := by decide +kernel
theorem dX9_init_60 : decode cX9_init 60 = .ok (.putfield 29, 3) := by decide +kernel
theorem dX9_init_63 : decode cX9_init 63 = .ok (.aload_n 0, 1) := by decide +kernel
theorem dX9_init_64 : decode cX9_init 64 = .ok (.sipush 324, 3) := by decide +kernel
theorem dX9_init_67 : decode cX9_init 67 = .ok (.newarray .long, 2) := by decide +kernel
theorem dX9_init_69 : decode cX9_init 69 = .ok (.putfield 32, 3) := by decide +kernel
theorem dX9_init_72 : decode cX9_init 72 = .ok (.aload_n 0, 1) := by decide +kernel
theorem dX9_init_73 : decode cX9_init 73 = .ok (.bipush 19, 2) := by decide +kernel
theorem dX9_init_75 : decode cX9_init 75 = .ok (.newarray .long, 2) := by decide +kernel
theorem dX9_init_77 : decode cX9_init 77 = .ok (.putfield 35, 3) := by decide +kernel
theorem dX9_init_80 : decode cX9_init 80 = .ok (.aload_n 0, 1) := by decide +kernel
theorem dX9_init_81 : decode cX9_init 81 = .ok (.bipush 19, 2) := by decide +kernel
theorem dX9_init_83 : decode cX9_init 83 = .ok (.newarray .long, 2) := by decide +kernel
theorem dX9_init_85 : decode cX9_init 85 = .ok (.putfield 38, 3) := by decide +kernel
theorem dX9_init_88 : decode cX9_init 88 = .ok (.aload_n 0, 1) := by decide +kernel
theorem dX9_init_89 : decode cX9_init 89 = .ok (.bipush 20, 2) := by decide +kernel
theorem dX9_init_91 : decode cX9_init 91 = .ok (.newarray .long, 2) := by decide +kernel
theorem dX9_init_93 : decode cX9_init 93 = .ok (.putfield 41, 3) := by decide +kernel
theorem dX9_init_96 : decode cX9_init 96 = .ok (.aload_n 0, 1) := by decide +kernel
theorem dX9_init_97 : decode cX9_init 97 = .ok (.bipush 18, 2) := by decide +kernel
theorem dX9_init_99 : decode cX9_init 99 = .ok (.newarray .long, 2) := by decide +kernel
theorem dX9_init_101 : decode cX9_init 101 = .ok (.putfield 44, 3) := by decide +kernel
theorem dX9_init_104 : decode cX9_init 104 = .ok (.aload_n 0, 1) := by decide +kernel
theorem dX9_init_105 : decode cX9_init 105 = .ok (.bipush 18, 2) := by decide +kernel
theorem dX9_init_107 : decode cX9_init 107 = .ok (.newarray .long, 2) := by decide +kernel
theorem dX9_init_109 : decode cX9_init 109 = .ok (.putfield 47, 3) := by decide +kernel
theorem dX9_init_112 : decode cX9_init 112 = .ok (.aload_n 0, 1) := by decide +kernel
theorem dX9_init_113 : decode cX9_init 113 = .ok (.bipush 19, 2) := by decide +kernel
theorem dX9_init_115 : decode cX9_init 115 = .ok (.newarray .long, 2) := by decide +kernel
theorem dX9_init_117 : decode cX9_init 117 = .ok (.putfield 50, 3) := by decide +kernel
theorem dX9_init_120 : decode cX9_init 120 = .ok (.aload_n 0, 1) := by decide +kernel
theorem dX9_init_121 : decode cX9_init 121 = .ok (.bipush 19, 2) := by decide +kernel
theorem dX9_init_123 : decode cX9_init 123 = .ok (.newarray .long, 2) := by decide +kernel
theorem dX9_init_125 : decode cX9_init 125 = .ok (.putfield 53, 3) := by decide +kernel
theorem dX9_init_128 : decode cX9_init 128 = .ok (.aload_n 0, 1) := by decide +kernel
theorem dX9_init_129 : decode cX9_init 129 = .ok (.bipush 19, 2) := by decide +kernel
theorem dX9_init_131 : decode cX9_init 131 = .ok (.newarray .long, 2) := by decide +kernel
theorem dX9_init_133 : decode cX9_init 133 = .ok (.putfield 56, 3) := by decide +kernel
theorem dX9_init_136 : decode cX9_init 136 = .ok (.aload_n 0, 1) := by decide +kernel
theorem dX9_init_137 : decode cX9_init 137 = .ok (.bipush 19, 2) := by decide +kernel
theorem dX9_init_139 : decode cX9_init 139 = .ok (.newarray .long, 2) := by decide +kernel
theorem dX9_init_141 : decode cX9_init 141 = .ok (.putfield 59, 3) := by decide +kernel
theorem dX9_init_144 : decode cX9_init 144 = .ok (.aload_n 0, 1) := by decide +kernel
theorem dX9_init_145 : decode cX9_init 145 = .ok (.iconst 5, 1) := by decide +kernel
theorem dX9_init_146 : decode cX9_init 146 = .ok (.newarray .int, 2) := by decide +kernel
theorem dX9_init_148 : decode cX9_init 148 = .ok (.putfield 62, 3) := by decide +kernel
theorem dX9_init_151 : decode cX9_init 151 = .ok (.aload_n 0, 1) := by decide +kernel
theorem dX9_init_152 : decode cX9_init 152 = .ok (.getfield 7, 3) := by decide +kernel
theorem dX9_init_155 : decode cX9_init 155 = .ok (.iconst 0, 1) := by decide +kernel
theorem dX9_init_156 : decode cX9_init 156 = .ok (.iconst 4, 1) := by decide +kernel
theorem dX9_init_157 : decode cX9_init 157 = .ok (.iastore, 1) := by decide +kernel
theorem dX9_init_158 : decode cX9_init 158 = .ok (.return_, 1) := by decide +kernel
theorem dX9_in_0 : decode cX9_in 0 = .ok (.iload_n 0, 1) := by decide +kernel
theorem dX9_in_1 : decode cX9_in 1 = .ok (.iload_n 1, 1) := by decide +kernel
theorem dX9_in_2 : decode cX9_in 2 = .ok (.if_icmp .lt 12, 3) := by decide +kernel
theorem dX9_in_5 : decode cX9_in 5 = .ok (.iload_n 0, 1) := by decide +kernel
theorem dX9_in_6 : decode cX9_in 6 = .ok (.iload_n 2, 1) := by decide +kernel
theorem dX9_in_7 : decode cX9_in 7 = .ok (.if_icmp .gt 7, 3) := by decide +kernel
theorem dX9_in_10 : decode cX9_in 10 = .ok (.iconst 1, 1) := by decide +kernel
theorem dX9_in_11 : decode cX9_in 11 = .ok (.goto 4, 3) := by decide +kernel
theorem dX9_in_14 : decode cX9_in 14 = .ok (.iconst 0, 1) := by decide +kernel
theorem dX9_in_15 : decode cX9_in 15 = .ok (.ireturn, 1) := by decide +kernel
theorem dX9_isVertex_0 : decode cX9_isVertex 0 = .ok (.iload_n 1, 1) := by decide +kernel
theorem dX9_isVertex_1 : decode cX9_isVertex 1 = .ok (.iconst 0, 1) := by decide +kernel
theorem dX9_isVertex_2 : decode cX9_isVertex 2 = .ok (.aload_n 0, 1) := by decide +kernel
theorem dX9_isVertex_3 : decode cX9_isVertex 3 = .ok (.getfield 7, 3) := by decide +kernel
theorem dX9_isVertex_6 : decode cX9_isVertex 6 = .ok (.iconst 0, 1) := by decide +kernel
theorem dX9_isVertex_7 : decode cX9_isVertex 7 = .ok (.iaload, 1) := by decide +kernel
theorem dX9_isVertex_8 : decode cX9_isVertex 8 = .ok (.iconst 1, 1) := by decide +kernel
theorem dX9_isVertex_9 : decode cX9_isVertex 9 = .ok (.isub, 1) := by decide +kernel
theorem dX9_isVertex_10 : decode cX9_isVertex 10 = .ok (.invokestatic 65, 3) := by decide +kernel
theorem dX9_isVertex_13 : decode cX9_isVertex 13 = .ok (.ireturn, 1) := by decide +kernel
theorem dX9_isEdge_0 : decode cX9_isEdge 0 = .ok (.iload_n 1, 1) := by decide +kernel
theorem dX9_isEdge_1 : decode cX9_isEdge 1 = .ok (.iconst 0, 1) := by decide +kernel
theorem dX9_isEdge_2 : decode cX9_isEdge 2 = .ok (.aload_n 0, 1) := by decide +kernel
theorem dX9_isEdge_3 : decode cX9_isEdge 3 = .ok (.getfield 7, 3) := by decide +kernel
theorem dX9_isEdge_6 : decode cX9_isEdge 6 = .ok (.iconst 1, 1) := by decide +kernel
theorem dX9_isEdge_7 : decode cX9_isEdge 7 = .ok (.iaload, 1) := by decide +kernel
theorem dX9_isEdge_8 : decode cX9_isEdge 8 = .ok (.iconst 1, 1) := by decide +kernel
theorem dX9_isEdge_9 : decode cX9_isEdge 9 = .ok (.isub, 1) := by decide +kernel
theorem dX9_isEdge_10 : decode cX9_isEdge 10 = .ok (.invokestatic 65, 3) := by decide +kernel
theorem dX9_isEdge_13 : decode cX9_isEdge 13 = .ok (.ireturn, 1) := by decide +kernel
theorem dX9_isDirected_0 : decode cX9_isDirected 0 = .ok (.iload_n 1, 1) := by decide +kernel
theorem dX9_isDirected_1 : decode cX9_isDirected 1 = .ok (.iconst 0, 1) := by decide +kernel
theorem dX9_isDirected_2 : decode cX9_isDirected 2 = .ok (.iconst 2, 1) := by decide +kernel
theorem dX9_isDirected_3 : decode cX9_isDirected 3 = .ok (.aload_n 0, 1) := by decide +kernel
theorem dX9_isDirected_4 : decode cX9_isDirected 4 = .ok (.getfield 7, 3) := by decide +kernel
theorem dX9_isDirected_7 : decode cX9_isDirected 7 = .ok (.iconst 1, 1) := by decide +kernel
theorem dX9_isDirected_8 : decode cX9_isDirected 8 = .ok (.iaload, 1) := by decide +kernel
theorem dX9_isDirected_9 : decode cX9_isDirected 9 = .ok (.imul, 1) := by decide +kernel
theorem dX9_isDirected_10 : decode cX9_isDirected 10 = .ok (.iconst 1, 1) := by decide +kernel
theorem dX9_isDirected_11 : decode cX9_isDirected 11 = .ok (.isub, 1) := by decide +kernel
theorem dX9_isDirected_12 : decode cX9_isDirected 12 = .ok (.invokestatic 65, 3) := by decide +kernel
theorem dX9_isDirected_15 : decode cX9_isDirected 15 = .ok (.ireturn, 1) := by decide +kernel
theorem dX9_save_0 : decode cX9_save 0 = .ok (.aload_n 0, 1) := by decide +kernel
theorem dX9_save_1 : decode cX9_save 1 = .ok (.getfield 69, 3) := by decide +kernel
theorem dX9_save_4 : decode cX9_save 4 = .ok (.bipush 8, 2) := by decide +kernel
theorem dX9_save_6 : decode cX9_save 6 = .ok (.if_icmp .ne 43, 3) := by decide +kernel
theorem dX9_save_9 : decode cX9_save 9 = .ok (.iconst 0, 1) := by decide +kernel
theorem dX9_save_10 : decode cX9_save 10 = .ok (.istore_n 1, 1) := by decide +kernel
theorem dX9_save_11 : decode cX9_save 11 = .ok (.iload_n 1, 1) := by decide +kernel
theorem dX9_save_12 : decode cX9_save 12 = .ok (.sipush 203, 3) := by decide +kernel
theorem dX9_save_15 : decode cX9_save 15 = .ok (.if_icmp .ge 24, 3) := by decide +kernel
theorem dX9_save_18 : decode cX9_save 18 = .ok (.aload_n 0, 1) := by decide +kernel
theorem dX9_save_19 : decode cX9_save 19 = .ok (.getfield 16, 3) := by decide +kernel
theorem dX9_save_22 : decode cX9_save 22 = .ok (.iload_n 1, 1) := by decide +kernel
theorem dX9_save_23 : decode cX9_save 23 = .ok (.aload_n 0, 1) := by decide +kernel
theorem dX9_save_24 : decode cX9_save 24 = .ok (.getfield 16, 3) := by decide +kernel
theorem dX9_save_27 : decode cX9_save 27 = .ok (.iload_n 1, 1) := by decide +kernel
theorem dX9_save_28 : decode cX9_save 28 = .ok (.bipush 29, 2) := by decide +kernel
theorem dX9_save_30 : decode cX9_save 30 = .ok (.iadd, 1) := by decide +kernel
theorem dX9_save_31 : decode cX9_save 31 = .ok (.iaload, 1) := by decide +kernel
theorem dX9_save_32 : decode cX9_save 32 = .ok (.iastore, 1) := by decide +kernel
theorem dX9_save_33 : decode cX9_save 33 = .ok (.iinc 1 1, 3) := by decide +kernel
theorem dX9_save_36 : decode cX9_save 36 = .ok (.goto (-25), 3) := by decide +kernel
theorem dX9_save_39 : decode cX9_save 39 = .ok (.aload_n 0, 1) := by decide +kernel
theorem dX9_save_40 : decode cX9_save 40 = .ok (.dup, 1) := by decide +kernel
theorem dX9_save_41 : decode cX9_save 41 = .ok (.getfield 69, 3) := by decide +kernel
theorem dX9_save_44 : decode cX9_save 44 = .ok (.iconst 1, 1) := by decide +kernel
theorem dX9_save_45 : decode cX9_save 45 = .ok (.isub, 1) := by decide +kernel
theorem dX9_save_46 : decode cX9_save 46 = .ok (.putfield 69, 3) := by decide +kernel
theorem dX9_save_49 : decode cX9_save 49 = .ok (.iconst 0, 1) := by decide +kernel
theorem dX9_save_50 : decode cX9_save 50 = .ok (.istore_n 1, 1) := by decide +kernel
theorem dX9_save_51 : decode cX9_save 51 = .ok (.iload_n 1, 1) := by decide +kernel
theorem dX9_save_52 : decode cX9_save 52 = .ok (.bipush 29, 2) := by decide +kernel
theorem dX9_save_54 : decode cX9_save 54 = .ok (.if_icmp .ge 29, 3) := by decide +kernel
theorem dX9_save_57 : decode cX9_save 57 = .ok (.aload_n 0, 1) := by decide +kernel
theorem dX9_save_58 : decode cX9_save 58 = .ok (.getfield 16, 3) := by decide +kernel
theorem dX9_save_61 : decode cX9_save 61 = .ok (.bipush 29, 2) := by decide +kernel
theorem dX9_save_63 : decode cX9_save 63 = .ok (.aload_n 0, 1) := by decide +kernel
theorem dX9_save_64 : decode cX9_save 64 = .ok (.getfield 69, 3) := by decide +kernel
theorem dX9_save_67 : decode cX9_save 67 = .ok (.imul, 1) := by decide +kernel
theorem dX9_save_68 : decode cX9_save 68 = .ok (.iload_n 1, 1) := by decide +kernel
theorem dX9_save_69 : decode cX9_save 69 = .ok (.iadd, 1) := by decide +kernel
theorem dX9_save_70 : decode cX9_save 70 = .ok (.aload_n 0, 1) := by decide +kernel
theorem dX9_save_71 : decode cX9_save 71 = .ok (.getfield 7, 3) := by decide +kernel
theorem dX9_save_74 : decode cX9_save 74 = .ok (.iload_n 1, 1) := by decide +kernel
theorem dX9_save_75 : decode cX9_save 75 = .ok (.iaload, 1) := by decide +kernel
theorem dX9_save_76 : decode cX9_save 76 = .ok (.iastore, 1) := by decide +kernel
theorem dX9_save_77 : decode cX9_save 77 = .ok (.iinc 1 1, 3) := by decide +kernel
theorem dX9_save_80 : decode cX9_save 80 = .ok (.goto (-29), 3) := by decide +kernel
theorem dX9_save_83 : decode cX9_save 83 = .ok (.aload_n 0, 1) := by decide +kernel
theorem dX9_save_84 : decode cX9_save 84 = .ok (.dup, 1) := by decide +kernel
theorem dX9_save_85 : decode cX9_save 85 = .ok (.getfield 69, 3) := by decide +kernel
theorem dX9_save_88 : decode cX9_save 88 = .ok (.iconst 1, 1) := by decide +kernel
theorem dX9_save_89 : decode cX9_save 89 = .ok (.iadd, 1) := by decide +kernel
theorem dX9_save_90 : decode cX9_save 90 = .ok (.putfield 69, 3) := by decide +kernel
theorem dX9_save_93 : decode cX9_save 93 = .ok (.return_, 1) := by decide +kernel
theorem dX9_configure_0 : decode cX9_configure 0 = .ok (.iload_n 1, 1) := by decide +kernel
theorem dX9_configure_1 : decode cX9_configure 1 = .ok (.iconst 1, 1) := by decide +kernel
theorem dX9_configure_2 : decode cX9_configure 2 = .ok (.bipush 6, 2) := by decide +kernel
theorem dX9_configure_4 : decode cX9_configure 4 = .ok (.invokestatic 65, 3) := by decide +kernel
theorem dX9_configure_7 : decode cX9_configure 7 = .ok (.ifCond .ne 5, 3) := by decide +kernel
theorem dX9_configure_10 : decode cX9_configure 10 = .ok (.iconst (-1), 1) := by decide +kernel
theorem dX9_configure_11 : decode cX9_configure 11 = .ok (.ireturn, 1) := by decide +kernel
theorem dX9_configure_12 : decode cX9_configure 12 = .ok (.aload_n 0, 1) := by decide +kernel
theorem dX9_configure_13 : decode cX9_configure 13 = .ok (.invokevirtual 73, 3) := by decide +kernel
theorem dX9_configure_16 : decode cX9_configure 16 = .ok (.aload_n 0, 1) := by decide +kernel
theorem dX9_configure_17 : decode cX9_configure 17 = .ok (.getfield 7, 3) := by decide +kernel
theorem dX9_configure_20 : decode cX9_configure 20 = .ok (.iconst 0, 1) := by decide +kernel
theorem dX9_configure_21 : decode cX9_configure 21 = .ok (.iaload, 1) := by decide +kernel
theorem dX9_configure_22 : decode cX9_configure 22 = .ok (.istore_n 2, 1) := by decide +kernel
theorem dX9_configure_23 : decode cX9_configure 23 = .ok (.aload_n 0, 1) := by decide +kernel
theorem dX9_configure_24 : decode cX9_configure 24 = .ok (.getfield 7, 3) := by decide +kernel
theorem dX9_configure_27 : decode cX9_configure 27 = .ok (.iconst 0, 1) := by decide +kernel
theorem dX9_configure_28 : decode cX9_configure 28 = .ok (.iload_n 1, 1) := by decide +kernel
theorem dX9_configure_29 : decode cX9_configure 29 = .ok (.iastore, 1) := by decide +kernel
theorem dX9_configure_30 : decode cX9_configure 30 = .ok (.aload_n 0, 1) := by decide +kernel
theorem dX9_configure_31 : decode cX9_configure 31 = .ok (.getfield 7, 3) := by decide +kernel
theorem dX9_configure_34 : decode cX9_configure 34 = .ok (.iconst 1, 1) := by decide +kernel
theorem dX9_configure_35 : decode cX9_configure 35 = .ok (.iconst 0, 1) := by decide +kernel
theorem dX9_configure_36 : decode cX9_configure 36 = .ok (.iastore, 1) := by decide +kernel
theorem dX9_configure_37 : decode cX9_configure 37 = .ok (.iload_n 2, 1) := by decide +kernel
theorem dX9_configure_38 : decode cX9_configure 38 = .ok (.ireturn, 1) := by decide +kernel
theorem dX9_addEdge_0 : decode cX9_addEdge 0 = .ok (.aload_n 0, 1) := by decide +kernel
theorem dX9_addEdge_1 : decode cX9_addEdge 1 = .ok (.iload_n 1, 1) := by decide +kernel
theorem dX9_addEdge_2 : decode cX9_addEdge 2 = .ok (.invokevirtual 76, 3) := by decide +kernel
theorem dX9_addEdge_5 : decode cX9_addEdge 5 = .ok (.ifCond .eq 26, 3) := by decide +kernel
theorem dX9_addEdge_8 : decode cX9_addEdge 8 = .ok (.aload_n 0, 1) := by decide +kernel
theorem dX9_addEdge_9 : decode cX9_addEdge 9 = .ok (.iload_n 2, 1) := by decide +kernel
theorem dX9_addEdge_10 : decode cX9_addEdge 10 = .ok (.invokevirtual 76, 3) := by decide +kernel
theorem dX9_addEdge_13 : decode cX9_addEdge 13 = .ok (.ifCond .eq 18, 3) := by decide +kernel
theorem dX9_addEdge_16 : decode cX9_addEdge 16 = .ok (.iload_n 1, 1) := by decide +kernel
theorem dX9_addEdge_17 : decode cX9_addEdge 17 = .ok (.iload_n 2, 1) := by decide +kernel
theorem dX9_addEdge_18 : decode cX9_addEdge 18 = .ok (.if_icmp .eq 13, 3) := by decide +kernel
theorem dX9_addEdge_21 : decode cX9_addEdge 21 = .ok (.iload_n 3, 1) := by decide +kernel
theorem dX9_addEdge_22 : decode cX9_addEdge 22 = .ok (.iconst 1, 1) := by decide +kernel
theorem dX9_addEdge_23 : decode cX9_addEdge 23 = .ok (.if_icmp .eq 10, 3) := by decide +kernel
theorem dX9_addEdge_26 : decode cX9_addEdge 26 = .ok (.iload_n 3, 1) := by decide +kernel
theorem dX9_addEdge_27 : decode cX9_addEdge 27 = .ok (.iconst (-1), 1) := by decide +kernel
theorem dX9_addEdge_28 : decode cX9_addEdge 28 = .ok (.if_icmp .eq 5, 3) := by decide +kernel
theorem dX9_addEdge_31 : decode cX9_addEdge 31 = .ok (.iconst (-1), 1) := by decide +kernel
theorem dX9_addEdge_32 : decode cX9_addEdge 32 = .ok (.ireturn, 1) := by decide +kernel
theorem dX9_addEdge_33 : decode cX9_addEdge 33 = .ok (.aload_n 0, 1) := by decide +kernel
theorem dX9_addEdge_34 : decode cX9_addEdge 34 = .ok (.getfield 7, 3) := by decide +kernel
theorem dX9_addEdge_37 : decode cX9_addEdge 37 = .ok (.iconst 1, 1) := by decide +kernel
theorem dX9_addEdge_38 : decode cX9_addEdge 38 = .ok (.iaload, 1) := by decide +kernel
theorem dX9_addEdge_39 : decode cX9_addEdge 39 = .ok (.bipush 9, 2) := by decide +kernel
theorem dX9_addEdge_41 : decode cX9_addEdge 41 = .ok (.if_icmp .ne 6, 3) := by decide +kernel
theorem dX9_addEdge_44 : decode cX9_addEdge 44 = .ok (.bipush (-3), 2) := by decide +kernel
theorem dX9_addEdge_46 : decode cX9_addEdge 46 = .ok (.ireturn, 1) := by decide +kernel
theorem dX9_addEdge_47 : decode cX9_addEdge 47 = .ok (.aload_n 0, 1) := by decide +kernel
theorem dX9_addEdge_48 : decode cX9_addEdge 48 = .ok (.invokevirtual 73, 3) := by decide +kernel
theorem dX9_addEdge_51 : decode cX9_addEdge 51 = .ok (.iconst 2, 1) := by decide +kernel
theorem dX9_addEdge_52 : decode cX9_addEdge 52 = .ok (.iconst 3, 1) := by decide +kernel
theorem dX9_addEdge_53 : decode cX9_addEdge 53 = .ok (.aload_n 0, 1) := by decide +kernel
theorem dX9_addEdge_54 : decode cX9_addEdge 54 = .ok (.getfield 7, 3) := by decide +kernel
theorem dX9_addEdge_57 : decode cX9_addEdge 57 = .ok (.iconst 1, 1) := by decide +kernel
theorem dX9_addEdge_58 : decode cX9_addEdge 58 = .ok (.iaload, 1) := by decide +kernel
theorem dX9_addEdge_59 : decode cX9_addEdge 59 = .ok (.imul, 1) := by decide +kernel
theorem dX9_addEdge_60 : decode cX9_addEdge 60 = .ok (.iadd, 1) := by decide +kernel
theorem dX9_addEdge_61 : decode cX9_addEdge 61 = .ok (.istore 4, 2) := by decide +kernel
theorem dX9_addEdge_63 : decode cX9_addEdge 63 = .ok (.aload_n 0, 1) := by decide +kernel
theorem dX9_addEdge_64 : decode cX9_addEdge 64 = .ok (.getfield 7, 3) := by decide +kernel
theorem dX9_addEdge_67 : decode cX9_addEdge 67 = .ok (.iload 4, 2) := by decide +kernel
theorem dX9_addEdge_69 : decode cX9_addEdge 69 = .ok (.iload_n 1, 1) := by decide +kernel
theorem dX9_addEdge_70 : decode cX9_addEdge 70 = .ok (.iastore, 1) := by decide +kernel
theorem dX9_addEdge_71 : decode cX9_addEdge 71 = .ok (.aload_n 0, 1) := by decide +kernel
theorem dX9_addEdge_72 : decode cX9_addEdge 72 = .ok (.getfield 7, 3) := by decide +kernel
theorem dX9_addEdge_75 : decode cX9_addEdge 75 = .ok (.iload 4, 2) := by decide +kernel
theorem dX9_addEdge_77 : decode cX9_addEdge 77 = .ok (.iconst 1, 1) := by decide +kernel
theorem dX9_addEdge_78 : decode cX9_addEdge 78 = .ok (.iadd, 1) := by decide +kernel
theorem dX9_addEdge_79 : decode cX9_addEdge 79 = .ok (.iload_n 2, 1) := by decide +kernel
theorem dX9_addEdge_80 : decode cX9_addEdge 80 = .ok (.iastore, 1) := by decide +kernel
theorem dX9_addEdge_81 : decode cX9_addEdge 81 = .ok (.aload_n 0, 1) := by decide +kernel
theorem dX9_addEdge_82 : decode cX9_addEdge 82 = .ok (.getfield 7, 3) := by decide +kernel
theorem dX9_addEdge_85 : decode cX9_addEdge 85 = .ok (.iload 4, 2) := by decide +kernel
theorem dX9_addEdge_87 : decode cX9_addEdge 87 = .ok (.iconst 2, 1) := by decide +kernel
theorem dX9_addEdge_88 : decode cX9_addEdge 88 = .ok (.iadd, 1) := by decide +kernel
theorem dX9_addEdge_89 : decode cX9_addEdge 89 = .ok (.iload_n 3, 1) := by decide +kernel
theorem dX9_addEdge_90 : decode cX9_addEdge 90 = .ok (.iastore, 1) := by decide +kernel
theorem dX9_addEdge_91 : decode cX9_addEdge 91 = .ok (.aload_n 0, 1) := by decide +kernel
theorem dX9_addEdge_92 : decode cX9_addEdge 92 = .ok (.getfield 7, 3) := by decide +kernel
theorem dX9_addEdge_95 : decode cX9_addEdge 95 = .ok (.iconst 1, 1) := by decide +kernel
theorem dX9_addEdge_96 : decode cX9_addEdge 96 = .ok (.dup2, 1) := by decide +kernel
theorem dX9_addEdge_97 : decode cX9_addEdge 97 = .ok (.iaload, 1) := by decide +kernel
theorem dX9_addEdge_98 : decode cX9_addEdge 98 = .ok (.iconst 1, 1) := by decide +kernel
theorem dX9_addEdge_99 : decode cX9_addEdge 99 = .ok (.iadd, 1) := by decide +kernel
theorem dX9_addEdge_100 : decode cX9_addEdge 100 = .ok (.iastore, 1) := by decide +kernel
theorem dX9_addEdge_101 : decode cX9_addEdge 101 = .ok (.aload_n 0, 1) := by decide +kernel
theorem dX9_addEdge_102 : decode cX9_addEdge 102 = .ok (.getfield 7, 3) := by decide +kernel
theorem dX9_addEdge_105 : decode cX9_addEdge 105 = .ok (.iconst 1, 1) := by decide +kernel
theorem dX9_addEdge_106 : decode cX9_addEdge 106 = .ok (.iaload, 1) := by decide +kernel
theorem dX9_addEdge_107 : decode cX9_addEdge 107 = .ok (.iconst 1, 1) := by decide +kernel
theorem dX9_addEdge_108 : decode cX9_addEdge 108 = .ok (.isub, 1) := by decide +kernel
theorem dX9_addEdge_109 : decode cX9_addEdge 109 = .ok (.ireturn, 1) := by decide +kernel
theorem dX9_removeEdge_0 : decode cX9_removeEdge 0 = .ok (.aload_n 0, 1) := by decide +kernel
theorem dX9_removeEdge_1 : decode cX9_removeEdge 1 = .ok (.iload_n 1, 1) := by decide +kernel
theorem dX9_removeEdge_2 : decode cX9_removeEdge 2 = .ok (.invokevirtual 80, 3) := by decide +kernel
theorem dX9_removeEdge_5 : decode cX9_removeEdge 5 = .ok (.ifCond .ne 5, 3) := by decide +kernel
theorem dX9_removeEdge_8 : decode cX9_removeEdge 8 = .ok (.iconst (-1), 1) := by decide +kernel
theorem dX9_removeEdge_9 : decode cX9_removeEdge 9 = .ok (.ireturn, 1) := by decide +kernel
theorem dX9_removeEdge_10 : decode cX9_removeEdge 10 = .ok (.aload_n 0, 1) := by decide +kernel
theorem dX9_removeEdge_11 : decode cX9_removeEdge 11 = .ok (.invokevirtual 73, 3) := by decide +kernel
theorem dX9_removeEdge_14 : decode cX9_removeEdge 14 = .ok (.aload_n 0, 1) := by decide +kernel
theorem dX9_removeEdge_15 : decode cX9_removeEdge 15 = .ok (.getfield 7, 3) := by decide +kernel
theorem dX9_removeEdge_18 : decode cX9_removeEdge 18 = .ok (.iconst 1, 1) := by decide +kernel
theorem dX9_removeEdge_19 : decode cX9_removeEdge 19 = .ok (.dup2, 1) := by decide +kernel
theorem dX9_removeEdge_20 : decode cX9_removeEdge 20 = .ok (.iaload, 1) := by decide +kernel
theorem dX9_removeEdge_21 : decode cX9_removeEdge 21 = .ok (.iconst 1, 1) := by decide +kernel
theorem dX9_removeEdge_22 : decode cX9_removeEdge 22 = .ok (.isub, 1) := by decide +kernel
theorem dX9_removeEdge_23 : decode cX9_removeEdge 23 = .ok (.iastore, 1) := by decide +kernel
theorem dX9_removeEdge_24 : decode cX9_removeEdge 24 = .ok (.iconst 2, 1) := by decide +kernel
theorem dX9_removeEdge_25 : decode cX9_removeEdge 25 = .ok (.iconst 3, 1) := by decide +kernel
theorem dX9_removeEdge_26 : decode cX9_removeEdge 26 = .ok (.iload_n 1, 1) := by decide +kernel
theorem dX9_removeEdge_27 : decode cX9_removeEdge 27 = .ok (.imul, 1) := by decide +kernel
theorem dX9_removeEdge_28 : decode cX9_removeEdge 28 = .ok (.iadd, 1) := by decide +kernel
theorem dX9_removeEdge_29 : decode cX9_removeEdge 29 = .ok (.istore_n 2, 1) := by decide +kernel
theorem dX9_removeEdge_30 : decode cX9_removeEdge 30 = .ok (.iload_n 2, 1) := by decide +kernel
theorem dX9_removeEdge_31 : decode cX9_removeEdge 31 = .ok (.iconst 2, 1) := by decide +kernel
theorem dX9_removeEdge_32 : decode cX9_removeEdge 32 = .ok (.iconst 3, 1) := by decide +kernel
theorem dX9_removeEdge_33 : decode cX9_removeEdge 33 = .ok (.aload_n 0, 1) := by decide +kernel
theorem dX9_removeEdge_34 : decode cX9_removeEdge 34 = .ok (.getfield 7, 3) := by decide +kernel
theorem dX9_removeEdge_37 : decode cX9_removeEdge 37 = .ok (.iconst 1, 1) := by decide +kernel
theorem dX9_removeEdge_38 : decode cX9_removeEdge 38 = .ok (.iaload, 1) := by decide +kernel
theorem dX9_removeEdge_39 : decode cX9_removeEdge 39 = .ok (.imul, 1) := by decide +kernel
theorem dX9_removeEdge_40 : decode cX9_removeEdge 40 = .ok (.iadd, 1) := by decide +kernel
theorem dX9_removeEdge_41 : decode cX9_removeEdge 41 = .ok (.if_icmp .ge 23, 3) := by decide +kernel
theorem dX9_removeEdge_44 : decode cX9_removeEdge 44 = .ok (.aload_n 0, 1) := by decide +kernel
theorem dX9_removeEdge_45 : decode cX9_removeEdge 45 = .ok (.getfield 7, 3) := by decide +kernel
theorem dX9_removeEdge_48 : decode cX9_removeEdge 48 = .ok (.iload_n 2, 1) := by decide +kernel
theorem dX9_removeEdge_49 : decode cX9_removeEdge 49 = .ok (.aload_n 0, 1) := by decide +kernel
theorem dX9_removeEdge_50 : decode cX9_removeEdge 50 = .ok (.getfield 7, 3) := by decide +kernel
theorem dX9_removeEdge_53 : decode cX9_removeEdge 53 = .ok (.iload_n 2, 1) := by decide +kernel
theorem dX9_removeEdge_54 : decode cX9_removeEdge 54 = .ok (.iconst 3, 1) := by decide +kernel
theorem dX9_removeEdge_55 : decode cX9_removeEdge 55 = .ok (.iadd, 1) := by decide +kernel
theorem dX9_removeEdge_56 : decode cX9_removeEdge 56 = .ok (.iaload, 1) := by decide +kernel
theorem dX9_removeEdge_57 : decode cX9_removeEdge 57 = .ok (.iastore, 1) := by decide +kernel
theorem dX9_removeEdge_58 : decode cX9_removeEdge 58 = .ok (.iinc 2 1, 3) := by decide +kernel
theorem dX9_removeEdge_61 : decode cX9_removeEdge 61 = .ok (.goto (-31), 3) := by decide +kernel
theorem dX9_removeEdge_64 : decode cX9_removeEdge 64 = .ok (.aload_n 0, 1) := by decide +kernel
theorem dX9_removeEdge_65 : decode cX9_removeEdge 65 = .ok (.getfield 7, 3) := by decide +kernel
theorem dX9_removeEdge_68 : decode cX9_removeEdge 68 = .ok (.iconst 1, 1) := by decide +kernel
theorem dX9_removeEdge_69 : decode cX9_removeEdge 69 = .ok (.iaload, 1) := by decide +kernel
theorem dX9_removeEdge_70 : decode cX9_removeEdge 70 = .ok (.ireturn, 1) := by decide +kernel
theorem dX9_flipSign_0 : decode cX9_flipSign 0 = .ok (.aload_n 0, 1) := by decide +kernel
theorem dX9_flipSign_1 : decode cX9_flipSign 1 = .ok (.iload_n 1, 1) := by decide +kernel
theorem dX9_flipSign_2 : decode cX9_flipSign 2 = .ok (.invokevirtual 80, 3) := by decide +kernel
theorem dX9_flipSign_5 : decode cX9_flipSign 5 = .ok (.ifCond .ne 5, 3) := by decide +kernel
theorem dX9_flipSign_8 : decode cX9_flipSign 8 = .ok (.iconst 0, 1) := by decide +kernel
theorem dX9_flipSign_9 : decode cX9_flipSign 9 = .ok (.ireturn, 1) := by decide +kernel
theorem dX9_flipSign_10 : decode cX9_flipSign 10 = .ok (.aload_n 0, 1) := by decide +kernel
theorem dX9_flipSign_11 : decode cX9_flipSign 11 = .ok (.invokevirtual 73, 3) := by decide +kernel
theorem dX9_flipSign_14 : decode cX9_flipSign 14 = .ok (.iconst 2, 1) := by decide +kernel
theorem dX9_flipSign_15 : decode cX9_flipSign 15 = .ok (.iconst 3, 1) := by decide +kernel
theorem dX9_flipSign_16 : decode cX9_flipSign 16 = .ok (.iload_n 1, 1) := by decide +kernel
theorem dX9_flipSign_17 : decode cX9_flipSign 17 = .ok (.imul, 1) := by decide +kernel
theorem dX9_flipSign_18 : decode cX9_flipSign 18 = .ok (.iadd, 1) := by decide +kernel
theorem dX9_flipSign_19 : decode cX9_flipSign 19 = .ok (.iconst 2, 1) := by decide +kernel
theorem dX9_flipSign_20 : decode cX9_flipSign 20 = .ok (.iadd, 1) := by decide +kernel
theorem dX9_flipSign_21 : decode cX9_flipSign 21 = .ok (.istore_n 2, 1) := by decide +kernel
theorem dX9_flipSign_22 : decode cX9_flipSign 22 = .ok (.aload_n 0, 1) := by decide +kernel
theorem dX9_flipSign_23 : decode cX9_flipSign 23 = .ok (.getfield 7, 3) := by decide +kernel
theorem dX9_flipSign_26 : decode cX9_flipSign 26 = .ok (.iload_n 2, 1) := by decide +kernel
theorem dX9_flipSign_27 : decode cX9_flipSign 27 = .ok (.aload_n 0, 1) := by decide +kernel
theorem dX9_flipSign_28 : decode cX9_flipSign 28 = .ok (.getfield 7, 3) := by decide +kernel
theorem dX9_flipSign_31 : decode cX9_flipSign 31 = .ok (.iload_n 2, 1) := by decide +kernel
theorem dX9_flipSign_32 : decode cX9_flipSign 32 = .ok (.iaload, 1) := by decide +kernel
theorem dX9_flipSign_33 : decode cX9_flipSign 33 = .ok (.ineg, 1) := by decide +kernel
theorem dX9_flipSign_34 : decode cX9_flipSign 34 = .ok (.iastore, 1) := by decide +kernel
theorem dX9_flipSign_35 : decode cX9_flipSign 35 = .ok (.aload_n 0, 1) := by decide +kernel
theorem dX9_flipSign_36 : decode cX9_flipSign 36 = .ok (.getfield 7, 3) := by decide +kernel
theorem dX9_flipSign_39 : decode cX9_flipSign 39 = .ok (.iload_n 2, 1) := by decide +kernel
theorem dX9_flipSign_40 : decode cX9_flipSign 40 = .ok (.iaload, 1) := by decide +kernel
theorem dX9_flipSign_41 : decode cX9_flipSign 41 = .ok (.ireturn, 1) := by decide +kernel
theorem dX9_appendCharacter_0 : decode cX9_appendCharacter 0 = .ok (.iload_n 1, 1) := by decide +kernel
theorem dX9_appendCharacter_1 : decode cX9_appendCharacter 1 = .ok (.iconst 0, 1) := by decide +kernel
theorem dX9_appendCharacter_2 : decode cX9_appendCharacter 2 = .ok (.sipush 255, 3) := by decide +kernel
theorem dX9_appendCharacter_5 : decode cX9_appendCharacter 5 = .ok (.invokestatic 65, 3) := by decide +kernel
theorem dX9_appendCharacter_8 : decode cX9_appendCharacter 8 = .ok (.ifCond .ne 5, 3) := by decide +kernel
theorem dX9_appendCharacter_11 : decode cX9_appendCharacter 11 = .ok (.iconst (-1), 1) := by decide +kernel
theorem dX9_appendCharacter_12 : decode cX9_appendCharacter 12 = .ok (.ireturn, 1) := by decide +kernel
theorem dX9_appendCharacter_13 : decode cX9_appendCharacter 13 = .ok (.aload_n 0, 1) := by decide +kernel
theorem dX9_appendCharacter_14 : decode cX9_appendCharacter 14 = .ok (.getfield 83, 3) := by decide +kernel
theorem dX9_appendCharacter_17 : decode cX9_appendCharacter 17 = .ok (.bipush 60, 2) := by decide +kernel
theorem dX9_appendCharacter_19 : decode cX9_appendCharacter 19 = .ok (.if_icmp .ne 6, 3) := by decide +kernel
theorem dX9_appendCharacter_22 : decode cX9_appendCharacter 22 = .ok (.bipush (-3), 2) := by decide +kernel
theorem dX9_appendCharacter_24 : decode cX9_appendCharacter 24 = .ok (.ireturn, 1) := by decide +kernel
theorem dX9_appendCharacter_25 : decode cX9_appendCharacter 25 = .ok (.aload_n 0, 1) := by decide +kernel
theorem dX9_appendCharacter_26 : decode cX9_appendCharacter 26 = .ok (.getfield 19, 3) := by decide +kernel
theorem dX9_appendCharacter_29 : decode cX9_appendCharacter 29 = .ok (.aload_n 0, 1) := by decide +kernel
theorem dX9_appendCharacter_30 : decode cX9_appendCharacter 30 = .ok (.getfield 83, 3) := by decide +kernel
theorem dX9_appendCharacter_33 : decode cX9_appendCharacter 33 = .ok (.iload_n 1, 1) := by decide +kernel
theorem dX9_appendCharacter_34 : decode cX9_appendCharacter 34 = .ok (.iastore, 1) := by decide +kernel
theorem dX9_appendCharacter_35 : decode cX9_appendCharacter 35 = .ok (.aload_n 0, 1) := by decide +kernel
theorem dX9_appendCharacter_36 : decode cX9_appendCharacter 36 = .ok (.dup, 1) := by decide +kernel
theorem dX9_appendCharacter_37 : decode cX9_appendCharacter 37 = .ok (.getfield 83, 3) := by decide +kernel
theorem dX9_appendCharacter_40 : decode cX9_appendCharacter 40 = .ok (.iconst 1, 1) := by decide +kernel
theorem dX9_appendCharacter_41 : decode cX9_appendCharacter 41 = .ok (.iadd, 1) := by decide +kernel
theorem dX9_appendCharacter_42 : decode cX9_appendCharacter 42 = .ok (.putfield 83, 3) := by decide +kernel
theorem dX9_appendCharacter_45 : decode cX9_appendCharacter 45 = .ok (.aload_n 0, 1) := by decide +kernel
theorem dX9_appendCharacter_46 : decode cX9_appendCharacter 46 = .ok (.getfield 83, 3) := by decide +kernel
theorem dX9_appendCharacter_49 : decode cX9_appendCharacter 49 = .ok (.ireturn, 1) := by decide +kernel
theorem dX9_clearText_0 : decode cX9_clearText 0 = .ok (.aload_n 0, 1) := by decide +kernel
theorem dX9_clearText_1 : decode cX9_clearText 1 = .ok (.getfield 83, 3) := by decide +kernel
theorem dX9_clearText_4 : decode cX9_clearText 4 = .ok (.istore_n 1, 1) := by decide +kernel
theorem dX9_clearText_5 : decode cX9_clearText 5 = .ok (.aload_n 0, 1) := by decide +kernel
theorem dX9_clearText_6 : decode cX9_clearText 6 = .ok (.iconst 0, 1) := by decide +kernel
theorem dX9_clearText_7 : decode cX9_clearText 7 = .ok (.putfield 83, 3) := by decide +kernel
theorem dX9_clearText_10 : decode cX9_clearText 10 = .ok (.iload_n 1, 1) := by decide +kernel
theorem dX9_clearText_11 : decode cX9_clearText 11 = .ok (.ireturn, 1) := by decide +kernel
theorem dX9_takes_0 : decode cX9_takes 0 = .ok (.iconst 2, 1) := by decide +kernel
theorem dX9_takes_1 : decode cX9_takes 1 = .ok (.iconst 3, 1) := by decide +kernel
theorem dX9_takes_2 : decode cX9_takes 2 = .ok (.aload_n 0, 1) := by decide +kernel
theorem dX9_takes_3 : decode cX9_takes 3 = .ok (.getfield 13, 3) := by decide +kernel
theorem dX9_takes_6 : decode cX9_takes 6 = .ok (.iconst 1, 1) := by decide +kernel
theorem dX9_takes_7 : decode cX9_takes 7 = .ok (.iaload, 1) := by decide +kernel
theorem dX9_takes_8 : decode cX9_takes 8 = .ok (.imul, 1) := by decide +kernel
theorem dX9_takes_9 : decode cX9_takes 9 = .ok (.iadd, 1) := by decide +kernel
theorem dX9_takes_10 : decode cX9_takes 10 = .ok (.istore_n 2, 1) := by decide +kernel
theorem dX9_takes_11 : decode cX9_takes 11 = .ok (.aload_n 0, 1) := by decide +kernel
theorem dX9_takes_12 : decode cX9_takes 12 = .ok (.getfield 86, 3) := by decide +kernel
theorem dX9_takes_15 : decode cX9_takes 15 = .ok (.tableswitch 142 0 2 #[25, 63, 100], 25) := by decide +kernel
theorem dX9_takes_40 : decode cX9_takes 40 = .ok (.aload_n 0, 1) := by decide +kernel
theorem dX9_takes_41 : decode cX9_takes 41 = .ok (.getfield 13, 3) := by decide +kernel
theorem dX9_takes_44 : decode cX9_takes 44 = .ok (.iload_n 2, 1) := by decide +kernel
theorem dX9_takes_45 : decode cX9_takes 45 = .ok (.iload_n 1, 1) := by decide +kernel
theorem dX9_takes_46 : decode cX9_takes 46 = .ok (.bipush 48, 2) := by decide +kernel
theorem dX9_takes_48 : decode cX9_takes 48 = .ok (.isub, 1) := by decide +kernel
theorem dX9_takes_49 : decode cX9_takes 49 = .ok (.iastore, 1) := by decide +kernel
theorem dX9_takes_50 : decode cX9_takes 50 = .ok (.aload_n 0, 1) := by decide +kernel
theorem dX9_takes_51 : decode cX9_takes 51 = .ok (.getfield 13, 3) := by decide +kernel
theorem dX9_takes_54 : decode cX9_takes 54 = .ok (.iconst 1, 1) := by decide +kernel
theorem dX9_takes_55 : decode cX9_takes 55 = .ok (.iaload, 1) := by decide +kernel
theorem dX9_takes_56 : decode cX9_takes 56 = .ok (.bipush 9, 2) := by decide +kernel
theorem dX9_takes_58 : decode cX9_takes 58 = .ok (.if_icmp .ge 18, 3) := by decide +kernel
theorem dX9_takes_61 : decode cX9_takes 61 = .ok (.aload_n 0, 1) := by decide +kernel
theorem dX9_takes_62 : decode cX9_takes 62 = .ok (.iload_n 1, 1) := by decide +kernel
theorem dX9_takes_63 : decode cX9_takes 63 = .ok (.bipush 48, 2) := by decide +kernel
theorem dX9_takes_65 : decode cX9_takes 65 = .ok (.isub, 1) := by decide +kernel
theorem dX9_takes_66 : decode cX9_takes 66 = .ok (.invokevirtual 76, 3) := by decide +kernel
theorem dX9_takes_69 : decode cX9_takes 69 = .ok (.ifCond .eq 7, 3) := by decide +kernel
theorem dX9_takes_72 : decode cX9_takes 72 = .ok (.iconst 1, 1) := by decide +kernel
theorem dX9_takes_73 : decode cX9_takes 73 = .ok (.goto 4, 3) := by decide +kernel
theorem dX9_takes_76 : decode cX9_takes 76 = .ok (.iconst 0, 1) := by decide +kernel
theorem dX9_takes_77 : decode cX9_takes 77 = .ok (.ireturn, 1) := by decide +kernel
theorem dX9_takes_78 : decode cX9_takes 78 = .ok (.aload_n 0, 1) := by decide +kernel
theorem dX9_takes_79 : decode cX9_takes 79 = .ok (.getfield 13, 3) := by decide +kernel
theorem dX9_takes_82 : decode cX9_takes 82 = .ok (.iload_n 2, 1) := by decide +kernel
theorem dX9_takes_83 : decode cX9_takes 83 = .ok (.iconst 2, 1) := by decide +kernel
theorem dX9_takes_84 : decode cX9_takes 84 = .ok (.iadd, 1) := by decide +kernel
theorem dX9_takes_85 : decode cX9_takes 85 = .ok (.iload_n 1, 1) := by decide +kernel
theorem dX9_takes_86 : decode cX9_takes 86 = .ok (.bipush 45, 2) := by decide +kernel
theorem dX9_takes_88 : decode cX9_takes 88 = .ok (.if_icmp .ne 7, 3) := by decide +kernel
theorem dX9_takes_91 : decode cX9_takes 91 = .ok (.iconst 1, 1) := by decide +kernel
theorem dX9_takes_92 : decode cX9_takes 92 = .ok (.goto 4, 3) := by decide +kernel
theorem dX9_takes_95 : decode cX9_takes 95 = .ok (.iconst (-1), 1) := by decide +kernel
theorem dX9_takes_96 : decode cX9_takes 96 = .ok (.iastore, 1) := by decide +kernel
theorem dX9_takes_97 : decode cX9_takes 97 = .ok (.iload_n 1, 1) := by decide +kernel
theorem dX9_takes_98 : decode cX9_takes 98 = .ok (.bipush 45, 2) := by decide +kernel
theorem dX9_takes_100 : decode cX9_takes 100 = .ok (.if_icmp .eq 9, 3) := by decide +kernel
theorem dX9_takes_103 : decode cX9_takes 103 = .ok (.iload_n 1, 1) := by decide +kernel
theorem dX9_takes_104 : decode cX9_takes 104 = .ok (.bipush 126, 2) := by decide +kernel
theorem dX9_takes_106 : decode cX9_takes 106 = .ok (.if_icmp .ne 7, 3) := by decide +kernel
theorem dX9_takes_109 : decode cX9_takes 109 = .ok (.iconst 1, 1) := by decide +kernel
theorem dX9_takes_110 : decode cX9_takes 110 = .ok (.goto 4, 3) := by decide +kernel
theorem dX9_takes_113 : decode cX9_takes 113 = .ok (.iconst 0, 1) := by decide +kernel
theorem dX9_takes_114 : decode cX9_takes 114 = .ok (.ireturn, 1) := by decide +kernel
theorem dX9_takes_115 : decode cX9_takes 115 = .ok (.aload_n 0, 1) := by decide +kernel
theorem dX9_takes_116 : decode cX9_takes 116 = .ok (.getfield 13, 3) := by decide +kernel
theorem dX9_takes_119 : decode cX9_takes 119 = .ok (.iload_n 2, 1) := by decide +kernel
theorem dX9_takes_120 : decode cX9_takes 120 = .ok (.iconst 1, 1) := by decide +kernel
theorem dX9_takes_121 : decode cX9_takes 121 = .ok (.iadd, 1) := by decide +kernel
theorem dX9_takes_122 : decode cX9_takes 122 = .ok (.iload_n 1, 1) := by decide +kernel
theorem dX9_takes_123 : decode cX9_takes 123 = .ok (.bipush 48, 2) := by decide +kernel
theorem dX9_takes_125 : decode cX9_takes 125 = .ok (.isub, 1) := by decide +kernel
theorem dX9_takes_126 : decode cX9_takes 126 = .ok (.iastore, 1) := by decide +kernel
theorem dX9_takes_127 : decode cX9_takes 127 = .ok (.aload_n 0, 1) := by decide +kernel
theorem dX9_takes_128 : decode cX9_takes 128 = .ok (.iload_n 1, 1) := by decide +kernel
theorem dX9_takes_129 : decode cX9_takes 129 = .ok (.bipush 48, 2) := by decide +kernel
theorem dX9_takes_131 : decode cX9_takes 131 = .ok (.isub, 1) := by decide +kernel
theorem dX9_takes_132 : decode cX9_takes 132 = .ok (.invokevirtual 76, 3) := by decide +kernel
theorem dX9_takes_135 : decode cX9_takes 135 = .ok (.ifCond .eq 20, 3) := by decide +kernel
theorem dX9_takes_138 : decode cX9_takes 138 = .ok (.aload_n 0, 1) := by decide +kernel
theorem dX9_takes_139 : decode cX9_takes 139 = .ok (.getfield 13, 3) := by decide +kernel
theorem dX9_takes_142 : decode cX9_takes 142 = .ok (.iload_n 2, 1) := by decide +kernel
theorem dX9_takes_143 : decode cX9_takes 143 = .ok (.iaload, 1) := by decide +kernel
theorem dX9_takes_144 : decode cX9_takes 144 = .ok (.iload_n 1, 1) := by decide +kernel
theorem dX9_takes_145 : decode cX9_takes 145 = .ok (.bipush 48, 2) := by decide +kernel
theorem dX9_takes_147 : decode cX9_takes 147 = .ok (.isub, 1) := by decide +kernel
theorem dX9_takes_148 : decode cX9_takes 148 = .ok (.if_icmp .eq 7, 3) := by decide +kernel
theorem dX9_takes_151 : decode cX9_takes 151 = .ok (.iconst 1, 1) := by decide +kernel
theorem dX9_takes_152 : decode cX9_takes 152 = .ok (.goto 4, 3) := by decide +kernel
theorem dX9_takes_155 : decode cX9_takes 155 = .ok (.iconst 0, 1) := by decide +kernel
theorem dX9_takes_156 : decode cX9_takes 156 = .ok (.ireturn, 1) := by decide +kernel
theorem dX9_takes_157 : decode cX9_takes 157 = .ok (.iload_n 1, 1) := by decide +kernel
theorem dX9_takes_158 : decode cX9_takes 158 = .ok (.bipush 59, 2) := by decide +kernel
theorem dX9_takes_160 : decode cX9_takes 160 = .ok (.if_icmp .ne 7, 3) := by decide +kernel
theorem dX9_takes_163 : decode cX9_takes 163 = .ok (.iconst 1, 1) := by decide +kernel
theorem dX9_takes_164 : decode cX9_takes 164 = .ok (.goto 4, 3) := by decide +kernel
theorem dX9_takes_167 : decode cX9_takes 167 = .ok (.iconst 0, 1) := by decide +kernel
theorem dX9_takes_168 : decode cX9_takes 168 = .ok (.ireturn, 1) := by decide +kernel
theorem dX9_reads_0 : decode cX9_reads 0 = .ok (.aload_n 0, 1) := by decide +kernel
theorem dX9_reads_1 : decode cX9_reads 1 = .ok (.getfield 13, 3) := by decide +kernel
theorem dX9_reads_4 : decode cX9_reads 4 = .ok (.iconst 0, 1) := by decide +kernel
theorem dX9_reads_5 : decode cX9_reads 5 = .ok (.aload_n 0, 1) := by decide +kernel
theorem dX9_reads_6 : decode cX9_reads 6 = .ok (.getfield 7, 3) := by decide +kernel
theorem dX9_reads_9 : decode cX9_reads 9 = .ok (.iconst 0, 1) := by decide +kernel
theorem dX9_reads_10 : decode cX9_reads 10 = .ok (.iaload, 1) := by decide +kernel
theorem dX9_reads_11 : decode cX9_reads 11 = .ok (.iastore, 1) := by decide +kernel
theorem dX9_reads_12 : decode cX9_reads 12 = .ok (.aload_n 0, 1) := by decide +kernel
theorem dX9_reads_13 : decode cX9_reads 13 = .ok (.getfield 13, 3) := by decide +kernel
theorem dX9_reads_16 : decode cX9_reads 16 = .ok (.iconst 1, 1) := by decide +kernel
theorem dX9_reads_17 : decode cX9_reads 17 = .ok (.iconst 0, 1) := by decide +kernel
theorem dX9_reads_18 : decode cX9_reads 18 = .ok (.iastore, 1) := by decide +kernel
theorem dX9_reads_19 : decode cX9_reads 19 = .ok (.aload_n 0, 1) := by decide +kernel
theorem dX9_reads_20 : decode cX9_reads 20 = .ok (.iconst 0, 1) := by decide +kernel
theorem dX9_reads_21 : decode cX9_reads 21 = .ok (.putfield 86, 3) := by decide +kernel
theorem dX9_reads_24 : decode cX9_reads 24 = .ok (.iconst 0, 1) := by decide +kernel
theorem dX9_reads_25 : decode cX9_reads 25 = .ok (.istore_n 1, 1) := by decide +kernel
theorem dX9_reads_26 : decode cX9_reads 26 = .ok (.iload_n 1, 1) := by decide +kernel
theorem dX9_reads_27 : decode cX9_reads 27 = .ok (.aload_n 0, 1) := by decide +kernel
theorem dX9_reads_28 : decode cX9_reads 28 = .ok (.getfield 83, 3) := by decide +kernel
theorem dX9_reads_31 : decode cX9_reads 31 = .ok (.if_icmp .ge 79, 3) := by decide +kernel
theorem dX9_reads_34 : decode cX9_reads 34 = .ok (.aload_n 0, 1) := by decide +kernel
theorem dX9_reads_35 : decode cX9_reads 35 = .ok (.getfield 19, 3) := by decide +kernel
theorem dX9_reads_38 : decode cX9_reads 38 = .ok (.iload_n 1, 1) := by decide +kernel
theorem dX9_reads_39 : decode cX9_reads 39 = .ok (.iaload, 1) := by decide +kernel
theorem dX9_reads_40 : decode cX9_reads 40 = .ok (.bipush 32, 2) := by decide +kernel
theorem dX9_reads_42 : decode cX9_reads 42 = .ok (.if_icmp .eq 62, 3) := by decide +kernel
theorem dX9_reads_45 : decode cX9_reads 45 = .ok (.aload_n 0, 1) := by decide +kernel
theorem dX9_reads_46 : decode cX9_reads 46 = .ok (.getfield 13, 3) := by decide +kernel
theorem dX9_reads_49 : decode cX9_reads 49 = .ok (.iconst 1, 1) := by decide +kernel
theorem dX9_reads_50 : decode cX9_reads 50 = .ok (.iaload, 1) := by decide +kernel
theorem dX9_reads_51 : decode cX9_reads 51 = .ok (.bipush 9, 2) := by decide +kernel
theorem dX9_reads_53 : decode cX9_reads 53 = .ok (.if_icmp .eq 16, 3) := by decide +kernel
theorem dX9_reads_56 : decode cX9_reads 56 = .ok (.aload_n 0, 1) := by decide +kernel
theorem dX9_reads_57 : decode cX9_reads 57 = .ok (.aload_n 0, 1) := by decide +kernel
theorem dX9_reads_58 : decode cX9_reads 58 = .ok (.getfield 19, 3) := by decide +kernel
theorem dX9_reads_61 : decode cX9_reads 61 = .ok (.iload_n 1, 1) := by decide +kernel
theorem dX9_reads_62 : decode cX9_reads 62 = .ok (.iaload, 1) := by decide +kernel
theorem dX9_reads_63 : decode cX9_reads 63 = .ok (.invokevirtual 89, 3) := by decide +kernel
theorem dX9_reads_66 : decode cX9_reads 66 = .ok (.ifCond .ne 5, 3) := by decide +kernel
theorem dX9_reads_69 : decode cX9_reads 69 = .ok (.iload_n 1, 1) := by decide +kernel
theorem dX9_reads_70 : decode cX9_reads 70 = .ok (.ireturn, 1) := by decide +kernel
theorem dX9_reads_71 : decode cX9_reads 71 = .ok (.aload_n 0, 1) := by decide +kernel
theorem dX9_reads_72 : decode cX9_reads 72 = .ok (.aload_n 0, 1) := by decide +kernel
theorem dX9_reads_73 : decode cX9_reads 73 = .ok (.getfield 86, 3) := by decide +kernel
theorem dX9_reads_76 : decode cX9_reads 76 = .ok (.iconst 1, 1) := by decide +kernel
theorem dX9_reads_77 : decode cX9_reads 77 = .ok (.iadd, 1) := by decide +kernel
theorem dX9_reads_78 : decode cX9_reads 78 = .ok (.iconst 4, 1) := by decide +kernel
theorem dX9_reads_79 : decode cX9_reads 79 = .ok (.irem, 1) := by decide +kernel
theorem dX9_reads_80 : decode cX9_reads 80 = .ok (.putfield 86, 3) := by decide +kernel
theorem dX9_reads_83 : decode cX9_reads 83 = .ok (.aload_n 0, 1) := by decide +kernel
theorem dX9_reads_84 : decode cX9_reads 84 = .ok (.getfield 13, 3) := by decide +kernel
theorem dX9_reads_87 : decode cX9_reads 87 = .ok (.iconst 1, 1) := by decide +kernel
theorem dX9_reads_88 : decode cX9_reads 88 = .ok (.dup2, 1) := by decide +kernel
theorem dX9_reads_89 : decode cX9_reads 89 = .ok (.iaload, 1) := by decide +kernel
theorem dX9_reads_90 : decode cX9_reads 90 = .ok (.aload_n 0, 1) := by decide +kernel
theorem dX9_reads_91 : decode cX9_reads 91 = .ok (.getfield 86, 3) := by decide +kernel
theorem dX9_reads_94 : decode cX9_reads 94 = .ok (.ifCond .ne 7, 3) := by decide +kernel
theorem dX9_reads_97 : decode cX9_reads 97 = .ok (.iconst 1, 1) := by decide +kernel
theorem dX9_reads_98 : decode cX9_reads 98 = .ok (.goto 4, 3) := by decide +kernel
theorem dX9_reads_101 : decode cX9_reads 101 = .ok (.iconst 0, 1) := by decide +kernel
theorem dX9_reads_102 : decode cX9_reads 102 = .ok (.iadd, 1) := by decide +kernel
theorem dX9_reads_103 : decode cX9_reads 103 = .ok (.iastore, 1) := by decide +kernel
theorem dX9_reads_104 : decode cX9_reads 104 = .ok (.iinc 1 1, 3) := by decide +kernel
theorem dX9_reads_107 : decode cX9_reads 107 = .ok (.goto (-81), 3) := by decide +kernel
theorem dX9_reads_110 : decode cX9_reads 110 = .ok (.aload_n 0, 1) := by decide +kernel
theorem dX9_reads_111 : decode cX9_reads 111 = .ok (.getfield 86, 3) := by decide +kernel
theorem dX9_reads_114 : decode cX9_reads 114 = .ok (.ifCond .ne 8, 3) := by decide +kernel
theorem dX9_reads_117 : decode cX9_reads 117 = .ok (.bipush (-9), 2) := by decide +kernel
theorem dX9_reads_119 : decode cX9_reads 119 = .ok (.goto 7, 3) := by decide +kernel
theorem dX9_reads_122 : decode cX9_reads 122 = .ok (.aload_n 0, 1) := by decide +kernel
theorem dX9_reads_123 : decode cX9_reads 123 = .ok (.getfield 83, 3) := by decide +kernel
theorem dX9_reads_126 : decode cX9_reads 126 = .ok (.ireturn, 1) := by decide +kernel
theorem dX9_loadGraph_0 : decode cX9_loadGraph 0 = .ok (.aload_n 0, 1) := by decide +kernel
theorem dX9_loadGraph_1 : decode cX9_loadGraph 1 = .ok (.invokevirtual 92, 3) := by decide +kernel
theorem dX9_loadGraph_4 : decode cX9_loadGraph 4 = .ok (.istore_n 1, 1) := by decide +kernel
theorem dX9_loadGraph_5 : decode cX9_loadGraph 5 = .ok (.iload_n 1, 1) := by decide +kernel
theorem dX9_loadGraph_6 : decode cX9_loadGraph 6 = .ok (.bipush (-9), 2) := by decide +kernel
theorem dX9_loadGraph_8 : decode cX9_loadGraph 8 = .ok (.if_icmp .eq 8, 3) := by decide +kernel
theorem dX9_loadGraph_11 : decode cX9_loadGraph 11 = .ok (.bipush (-10), 2) := by decide +kernel
theorem dX9_loadGraph_13 : decode cX9_loadGraph 13 = .ok (.iload_n 1, 1) := by decide +kernel
theorem dX9_loadGraph_14 : decode cX9_loadGraph 14 = .ok (.isub, 1) := by decide +kernel
theorem dX9_loadGraph_15 : decode cX9_loadGraph 15 = .ok (.ireturn, 1) := by decide +kernel
theorem dX9_loadGraph_16 : decode cX9_loadGraph 16 = .ok (.aload_n 0, 1) := by decide +kernel
theorem dX9_loadGraph_17 : decode cX9_loadGraph 17 = .ok (.invokevirtual 73, 3) := by decide +kernel
theorem dX9_loadGraph_20 : decode cX9_loadGraph 20 = .ok (.iconst 0, 1) := by decide +kernel
theorem dX9_loadGraph_21 : decode cX9_loadGraph 21 = .ok (.istore_n 2, 1) := by decide +kernel
theorem dX9_loadGraph_22 : decode cX9_loadGraph 22 = .ok (.iload_n 2, 1) := by decide +kernel
theorem dX9_loadGraph_23 : decode cX9_loadGraph 23 = .ok (.bipush 29, 2) := by decide +kernel
theorem dX9_loadGraph_25 : decode cX9_loadGraph 25 = .ok (.if_icmp .ge 21, 3) := by decide +kernel
theorem dX9_loadGraph_28 : decode cX9_loadGraph 28 = .ok (.aload_n 0, 1) := by decide +kernel
theorem dX9_loadGraph_29 : decode cX9_loadGraph 29 = .ok (.getfield 7, 3) := by decide +kernel
theorem dX9_loadGraph_32 : decode cX9_loadGraph 32 = .ok (.iload_n 2, 1) := by decide +kernel
theorem dX9_loadGraph_33 : decode cX9_loadGraph 33 = .ok (.aload_n 0, 1) := by decide +kernel
theorem dX9_loadGraph_34 : decode cX9_loadGraph 34 = .ok (.getfield 13, 3) := by decide +kernel
theorem dX9_loadGraph_37 : decode cX9_loadGraph 37 = .ok (.iload_n 2, 1) := by decide +kernel
theorem dX9_loadGraph_38 : decode cX9_loadGraph 38 = .ok (.iaload, 1) := by decide +kernel
theorem dX9_loadGraph_39 : decode cX9_loadGraph 39 = .ok (.iastore, 1) := by decide +kernel
theorem dX9_loadGraph_40 : decode cX9_loadGraph 40 = .ok (.iinc 2 1, 3) := by decide +kernel
theorem dX9_loadGraph_43 : decode cX9_loadGraph 43 = .ok (.goto (-21), 3) := by decide +kernel
theorem dX9_loadGraph_46 : decode cX9_loadGraph 46 = .ok (.aload_n 0, 1) := by decide +kernel
theorem dX9_loadGraph_47 : decode cX9_loadGraph 47 = .ok (.iconst 0, 1) := by decide +kernel
theorem dX9_loadGraph_48 : decode cX9_loadGraph 48 = .ok (.putfield 83, 3) := by decide +kernel
theorem dX9_loadGraph_51 : decode cX9_loadGraph 51 = .ok (.aload_n 0, 1) := by decide +kernel
theorem dX9_loadGraph_52 : decode cX9_loadGraph 52 = .ok (.getfield 7, 3) := by decide +kernel
theorem dX9_loadGraph_55 : decode cX9_loadGraph 55 = .ok (.iconst 1, 1) := by decide +kernel
theorem dX9_loadGraph_56 : decode cX9_loadGraph 56 = .ok (.iaload, 1) := by decide +kernel
theorem dX9_loadGraph_57 : decode cX9_loadGraph 57 = .ok (.ireturn, 1) := by decide +kernel
theorem dX9_undo_0 : decode cX9_undo 0 = .ok (.aload_n 0, 1) := by decide +kernel
theorem dX9_undo_1 : decode cX9_undo 1 = .ok (.getfield 69, 3) := by decide +kernel
theorem dX9_undo_4 : decode cX9_undo 4 = .ok (.ifCond .ne 6, 3) := by decide +kernel
theorem dX9_undo_7 : decode cX9_undo 7 = .ok (.bipush (-2), 2) := by decide +kernel
theorem dX9_undo_9 : decode cX9_undo 9 = .ok (.ireturn, 1) := by decide +kernel
theorem dX9_undo_10 : decode cX9_undo 10 = .ok (.aload_n 0, 1) := by decide +kernel
theorem dX9_undo_11 : decode cX9_undo 11 = .ok (.dup, 1) := by decide +kernel
theorem dX9_undo_12 : decode cX9_undo 12 = .ok (.getfield 69, 3) := by decide +kernel
theorem dX9_undo_15 : decode cX9_undo 15 = .ok (.iconst 1, 1) := by decide +kernel
theorem dX9_undo_16 : decode cX9_undo 16 = .ok (.isub, 1) := by decide +kernel
theorem dX9_undo_17 : decode cX9_undo 17 = .ok (.putfield 69, 3) := by decide +kernel
theorem dX9_undo_20 : decode cX9_undo 20 = .ok (.iconst 0, 1) := by decide +kernel
theorem dX9_undo_21 : decode cX9_undo 21 = .ok (.istore_n 1, 1) := by decide +kernel
theorem dX9_undo_22 : decode cX9_undo 22 = .ok (.iload_n 1, 1) := by decide +kernel
theorem dX9_undo_23 : decode cX9_undo 23 = .ok (.bipush 29, 2) := by decide +kernel
theorem dX9_undo_25 : decode cX9_undo 25 = .ok (.if_icmp .ge 29, 3) := by decide +kernel
theorem dX9_undo_28 : decode cX9_undo 28 = .ok (.aload_n 0, 1) := by decide +kernel
theorem dX9_undo_29 : decode cX9_undo 29 = .ok (.getfield 7, 3) := by decide +kernel
theorem dX9_undo_32 : decode cX9_undo 32 = .ok (.iload_n 1, 1) := by decide +kernel
theorem dX9_undo_33 : decode cX9_undo 33 = .ok (.aload_n 0, 1) := by decide +kernel
theorem dX9_undo_34 : decode cX9_undo 34 = .ok (.getfield 16, 3) := by decide +kernel
theorem dX9_undo_37 : decode cX9_undo 37 = .ok (.bipush 29, 2) := by decide +kernel
theorem dX9_undo_39 : decode cX9_undo 39 = .ok (.aload_n 0, 1) := by decide +kernel
theorem dX9_undo_40 : decode cX9_undo 40 = .ok (.getfield 69, 3) := by decide +kernel
theorem dX9_undo_43 : decode cX9_undo 43 = .ok (.imul, 1) := by decide +kernel
theorem dX9_undo_44 : decode cX9_undo 44 = .ok (.iload_n 1, 1) := by decide +kernel
theorem dX9_undo_45 : decode cX9_undo 45 = .ok (.iadd, 1) := by decide +kernel
theorem dX9_undo_46 : decode cX9_undo 46 = .ok (.iaload, 1) := by decide +kernel
theorem dX9_undo_47 : decode cX9_undo 47 = .ok (.iastore, 1) := by decide +kernel
theorem dX9_undo_48 : decode cX9_undo 48 = .ok (.iinc 1 1, 3) := by decide +kernel
theorem dX9_undo_51 : decode cX9_undo 51 = .ok (.goto (-29), 3) := by decide +kernel
theorem dX9_undo_54 : decode cX9_undo 54 = .ok (.aload_n 0, 1) := by decide +kernel
theorem dX9_undo_55 : decode cX9_undo 55 = .ok (.getfield 69, 3) := by decide +kernel
theorem dX9_undo_58 : decode cX9_undo 58 = .ok (.ireturn, 1) := by decide +kernel
theorem dX9_vertexCount_0 : decode cX9_vertexCount 0 = .ok (.aload_n 0, 1) := by decide +kernel
theorem dX9_vertexCount_1 : decode cX9_vertexCount 1 = .ok (.getfield 7, 3) := by decide +kernel
theorem dX9_vertexCount_4 : decode cX9_vertexCount 4 = .ok (.iconst 0, 1) := by decide +kernel
theorem dX9_vertexCount_5 : decode cX9_vertexCount 5 = .ok (.iaload, 1) := by decide +kernel
theorem dX9_vertexCount_6 : decode cX9_vertexCount 6 = .ok (.ireturn, 1) := by decide +kernel
theorem dX9_edgeCount_0 : decode cX9_edgeCount 0 = .ok (.aload_n 0, 1) := by decide +kernel
theorem dX9_edgeCount_1 : decode cX9_edgeCount 1 = .ok (.getfield 7, 3) := by decide +kernel
theorem dX9_edgeCount_4 : decode cX9_edgeCount 4 = .ok (.iconst 1, 1) := by decide +kernel
theorem dX9_edgeCount_5 : decode cX9_edgeCount 5 = .ok (.iaload, 1) := by decide +kernel
theorem dX9_edgeCount_6 : decode cX9_edgeCount 6 = .ok (.ireturn, 1) := by decide +kernel
theorem dX9_endOf_0 : decode cX9_endOf 0 = .ok (.aload_n 0, 1) := by decide +kernel
theorem dX9_endOf_1 : decode cX9_endOf 1 = .ok (.getfield 7, 3) := by decide +kernel
theorem dX9_endOf_4 : decode cX9_endOf 4 = .ok (.iconst 2, 1) := by decide +kernel
theorem dX9_endOf_5 : decode cX9_endOf 5 = .ok (.iconst 3, 1) := by decide +kernel
theorem dX9_endOf_6 : decode cX9_endOf 6 = .ok (.iload_n 1, 1) := by decide +kernel
theorem dX9_endOf_7 : decode cX9_endOf 7 = .ok (.iconst 2, 1) := by decide +kernel
theorem dX9_endOf_8 : decode cX9_endOf 8 = .ok (.idiv, 1) := by decide +kernel
theorem dX9_endOf_9 : decode cX9_endOf 9 = .ok (.imul, 1) := by decide +kernel
theorem dX9_endOf_10 : decode cX9_endOf 10 = .ok (.iadd, 1) := by decide +kernel
theorem dX9_endOf_11 : decode cX9_endOf 11 = .ok (.iload_n 1, 1) := by decide +kernel
theorem dX9_endOf_12 : decode cX9_endOf 12 = .ok (.iconst 2, 1) := by decide +kernel
theorem dX9_endOf_13 : decode cX9_endOf 13 = .ok (.irem, 1) := by decide +kernel
theorem dX9_endOf_14 : decode cX9_endOf 14 = .ok (.ifCond .ne 7, 3) := by decide +kernel
theorem dX9_endOf_17 : decode cX9_endOf 17 = .ok (.iload_n 2, 1) := by decide +kernel
theorem dX9_endOf_18 : decode cX9_endOf 18 = .ok (.goto 6, 3) := by decide +kernel
theorem dX9_endOf_21 : decode cX9_endOf 21 = .ok (.iconst 1, 1) := by decide +kernel
theorem dX9_endOf_22 : decode cX9_endOf 22 = .ok (.iload_n 2, 1) := by decide +kernel
theorem dX9_endOf_23 : decode cX9_endOf 23 = .ok (.isub, 1) := by decide +kernel
theorem dX9_endOf_24 : decode cX9_endOf 24 = .ok (.iadd, 1) := by decide +kernel
theorem dX9_endOf_25 : decode cX9_endOf 25 = .ok (.iaload, 1) := by decide +kernel
theorem dX9_endOf_26 : decode cX9_endOf 26 = .ok (.ireturn, 1) := by decide +kernel
theorem dX9_signOf_0 : decode cX9_signOf 0 = .ok (.aload_n 0, 1) := by decide +kernel
theorem dX9_signOf_1 : decode cX9_signOf 1 = .ok (.getfield 7, 3) := by decide +kernel
theorem dX9_signOf_4 : decode cX9_signOf 4 = .ok (.iconst 2, 1) := by decide +kernel
theorem dX9_signOf_5 : decode cX9_signOf 5 = .ok (.iconst 3, 1) := by decide +kernel
theorem dX9_signOf_6 : decode cX9_signOf 6 = .ok (.iload_n 1, 1) := by decide +kernel
theorem dX9_signOf_7 : decode cX9_signOf 7 = .ok (.iconst 2, 1) := by decide +kernel
theorem dX9_signOf_8 : decode cX9_signOf 8 = .ok (.idiv, 1) := by decide +kernel
theorem dX9_signOf_9 : decode cX9_signOf 9 = .ok (.imul, 1) := by decide +kernel
theorem dX9_signOf_10 : decode cX9_signOf 10 = .ok (.iadd, 1) := by decide +kernel
theorem dX9_signOf_11 : decode cX9_signOf 11 = .ok (.iconst 2, 1) := by decide +kernel
theorem dX9_signOf_12 : decode cX9_signOf 12 = .ok (.iadd, 1) := by decide +kernel
theorem dX9_signOf_13 : decode cX9_signOf 13 = .ok (.iaload, 1) := by decide +kernel
theorem dX9_signOf_14 : decode cX9_signOf 14 = .ok (.ireturn, 1) := by decide +kernel
theorem dX9_isNext_0 : decode cX9_isNext 0 = .ok (.aload_n 0, 1) := by decide +kernel
theorem dX9_isNext_1 : decode cX9_isNext 1 = .ok (.iload_n 1, 1) := by decide +kernel
theorem dX9_isNext_2 : decode cX9_isNext 2 = .ok (.iconst 1, 1) := by decide +kernel
theorem dX9_isNext_3 : decode cX9_isNext 3 = .ok (.invokevirtual 96, 3) := by decide +kernel
theorem dX9_isNext_6 : decode cX9_isNext 6 = .ok (.aload_n 0, 1) := by decide +kernel
theorem dX9_isNext_7 : decode cX9_isNext 7 = .ok (.iload_n 2, 1) := by decide +kernel
theorem dX9_isNext_8 : decode cX9_isNext 8 = .ok (.iconst 0, 1) := by decide +kernel
theorem dX9_isNext_9 : decode cX9_isNext 9 = .ok (.invokevirtual 96, 3) := by decide +kernel
theorem dX9_isNext_12 : decode cX9_isNext 12 = .ok (.if_icmp .ne 14, 3) := by decide +kernel
theorem dX9_isNext_15 : decode cX9_isNext 15 = .ok (.iload_n 2, 1) := by decide +kernel
theorem dX9_isNext_16 : decode cX9_isNext 16 = .ok (.iload_n 1, 1) := by decide +kernel
theorem dX9_isNext_17 : decode cX9_isNext 17 = .ok (.iconst 1, 1) := by decide +kernel
theorem dX9_isNext_18 : decode cX9_isNext 18 = .ok (.ixor, 1) := by decide +kernel
theorem dX9_isNext_19 : decode cX9_isNext 19 = .ok (.if_icmp .eq 7, 3) := by decide +kernel
theorem dX9_isNext_22 : decode cX9_isNext 22 = .ok (.iconst 1, 1) := by decide +kernel
theorem dX9_isNext_23 : decode cX9_isNext 23 = .ok (.goto 4, 3) := by decide +kernel
theorem dX9_isNext_26 : decode cX9_isNext 26 = .ok (.iconst 0, 1) := by decide +kernel
theorem dX9_isNext_27 : decode cX9_isNext 27 = .ok (.ireturn, 1) := by decide +kernel
theorem dX9_headOf_0 : decode cX9_headOf 0 = .ok (.aload_n 0, 1) := by decide +kernel
theorem dX9_headOf_1 : decode cX9_headOf 1 = .ok (.iload_n 1, 1) := by decide +kernel
theorem dX9_headOf_2 : decode cX9_headOf 2 = .ok (.invokevirtual 100, 3) := by decide +kernel
theorem dX9_headOf_5 : decode cX9_headOf 5 = .ok (.ifCond .eq 12, 3) := by decide +kernel
theorem dX9_headOf_8 : decode cX9_headOf 8 = .ok (.aload_n 0, 1) := by decide +kernel
theorem dX9_headOf_9 : decode cX9_headOf 9 = .ok (.iload_n 1, 1) := by decide +kernel
theorem dX9_headOf_10 : decode cX9_headOf 10 = .ok (.iconst 1, 1) := by decide +kernel
theorem dX9_headOf_11 : decode cX9_headOf 11 = .ok (.invokevirtual 96, 3) := by decide +kernel
theorem dX9_headOf_14 : decode cX9_headOf 14 = .ok (.goto 4, 3) := by decide +kernel
theorem dX9_headOf_17 : decode cX9_headOf 17 = .ok (.iconst (-1), 1) := by decide +kernel
theorem dX9_headOf_18 : decode cX9_headOf 18 = .ok (.ireturn, 1) := by decide +kernel
theorem dX9_follows_0 : decode cX9_follows 0 = .ok (.aload_n 0, 1) := by decide +kernel
theorem dX9_follows_1 : decode cX9_follows 1 = .ok (.iload_n 1, 1) := by decide +kernel
theorem dX9_follows_2 : decode cX9_follows 2 = .ok (.invokevirtual 100, 3) := by decide +kernel
theorem dX9_follows_5 : decode cX9_follows 5 = .ok (.ifCond .eq 11, 3) := by decide +kernel
theorem dX9_follows_8 : decode cX9_follows 8 = .ok (.aload_n 0, 1) := by decide +kernel
theorem dX9_follows_9 : decode cX9_follows 9 = .ok (.iload_n 2, 1) := by decide +kernel
theorem dX9_follows_10 : decode cX9_follows 10 = .ok (.invokevirtual 100, 3) := by decide +kernel
theorem dX9_follows_13 : decode cX9_follows 13 = .ok (.ifCond .ne 5, 3) := by decide +kernel
theorem dX9_follows_16 : decode cX9_follows 16 = .ok (.iconst (-1), 1) := by decide +kernel
theorem dX9_follows_17 : decode cX9_follows 17 = .ok (.ireturn, 1) := by decide +kernel
theorem dX9_follows_18 : decode cX9_follows 18 = .ok (.aload_n 0, 1) := by decide +kernel
theorem dX9_follows_19 : decode cX9_follows 19 = .ok (.iload_n 1, 1) := by decide +kernel
theorem dX9_follows_20 : decode cX9_follows 20 = .ok (.iload_n 2, 1) := by decide +kernel
theorem dX9_follows_21 : decode cX9_follows 21 = .ok (.invokevirtual 103, 3) := by decide +kernel
theorem dX9_follows_24 : decode cX9_follows 24 = .ok (.ifCond .eq 7, 3) := by decide +kernel
theorem dX9_follows_27 : decode cX9_follows 27 = .ok (.iconst 1, 1) := by decide +kernel
theorem dX9_follows_28 : decode cX9_follows 28 = .ok (.goto 4, 3) := by decide +kernel
theorem dX9_follows_31 : decode cX9_follows 31 = .ok (.iconst 0, 1) := by decide +kernel
theorem dX9_follows_32 : decode cX9_follows 32 = .ok (.ireturn, 1) := by decide +kernel
theorem dX9_degreeOf_0 : decode cX9_degreeOf 0 = .ok (.iconst 0, 1) := by decide +kernel
theorem dX9_degreeOf_1 : decode cX9_degreeOf 1 = .ok (.istore_n 2, 1) := by decide +kernel
theorem dX9_degreeOf_2 : decode cX9_degreeOf 2 = .ok (.iconst 0, 1) := by decide +kernel
theorem dX9_degreeOf_3 : decode cX9_degreeOf 3 = .ok (.istore_n 3, 1) := by decide +kernel
theorem dX9_degreeOf_4 : decode cX9_degreeOf 4 = .ok (.iload_n 3, 1) := by decide +kernel
theorem dX9_degreeOf_5 : decode cX9_degreeOf 5 = .ok (.iconst 2, 1) := by decide +kernel
theorem dX9_degreeOf_6 : decode cX9_degreeOf 6 = .ok (.aload_n 0, 1) := by decide +kernel
theorem dX9_degreeOf_7 : decode cX9_degreeOf 7 = .ok (.getfield 7, 3) := by decide +kernel
theorem dX9_degreeOf_10 : decode cX9_degreeOf 10 = .ok (.iconst 1, 1) := by decide +kernel
theorem dX9_degreeOf_11 : decode cX9_degreeOf 11 = .ok (.iaload, 1) := by decide +kernel
theorem dX9_degreeOf_12 : decode cX9_degreeOf 12 = .ok (.imul, 1) := by decide +kernel
theorem dX9_degreeOf_13 : decode cX9_degreeOf 13 = .ok (.if_icmp .ge 27, 3) := by decide +kernel
theorem dX9_degreeOf_16 : decode cX9_degreeOf 16 = .ok (.iload_n 2, 1) := by decide +kernel
theorem dX9_degreeOf_17 : decode cX9_degreeOf 17 = .ok (.aload_n 0, 1) := by decide +kernel
theorem dX9_degreeOf_18 : decode cX9_degreeOf 18 = .ok (.iload_n 3, 1) := by decide +kernel
theorem dX9_degreeOf_19 : decode cX9_degreeOf 19 = .ok (.iconst 0, 1) := by decide +kernel
theorem dX9_degreeOf_20 : decode cX9_degreeOf 20 = .ok (.invokevirtual 96, 3) := by decide +kernel
theorem dX9_degreeOf_23 : decode cX9_degreeOf 23 = .ok (.iload_n 1, 1) := by decide +kernel
theorem dX9_degreeOf_24 : decode cX9_degreeOf 24 = .ok (.if_icmp .ne 7, 3) := by decide +kernel
theorem dX9_degreeOf_27 : decode cX9_degreeOf 27 = .ok (.iconst 1, 1) := by decide +kernel
theorem dX9_degreeOf_28 : decode cX9_degreeOf 28 = .ok (.goto 4, 3) := by decide +kernel
theorem dX9_degreeOf_31 : decode cX9_degreeOf 31 = .ok (.iconst 0, 1) := by decide +kernel
theorem dX9_degreeOf_32 : decode cX9_degreeOf 32 = .ok (.iadd, 1) := by decide +kernel
theorem dX9_degreeOf_33 : decode cX9_degreeOf 33 = .ok (.istore_n 2, 1) := by decide +kernel
theorem dX9_degreeOf_34 : decode cX9_degreeOf 34 = .ok (.iinc 3 1, 3) := by decide +kernel
theorem dX9_degreeOf_37 : decode cX9_degreeOf 37 = .ok (.goto (-33), 3) := by decide +kernel
theorem dX9_degreeOf_40 : decode cX9_degreeOf 40 = .ok (.iload_n 2, 1) := by decide +kernel
theorem dX9_degreeOf_41 : decode cX9_degreeOf 41 = .ok (.ireturn, 1) := by decide +kernel
theorem dX9_degree_0 : decode cX9_degree 0 = .ok (.aload_n 0, 1) := by decide +kernel
theorem dX9_degree_1 : decode cX9_degree 1 = .ok (.iload_n 1, 1) := by decide +kernel
theorem dX9_degree_2 : decode cX9_degree 2 = .ok (.invokevirtual 76, 3) := by decide +kernel
theorem dX9_degree_5 : decode cX9_degree 5 = .ok (.ifCond .eq 11, 3) := by decide +kernel
theorem dX9_degree_8 : decode cX9_degree 8 = .ok (.aload_n 0, 1) := by decide +kernel
theorem dX9_degree_9 : decode cX9_degree 9 = .ok (.iload_n 1, 1) := by decide +kernel
theorem dX9_degree_10 : decode cX9_degree 10 = .ok (.invokevirtual 107, 3) := by decide +kernel
theorem dX9_degree_13 : decode cX9_degree 13 = .ok (.goto 4, 3) := by decide +kernel
theorem dX9_degree_16 : decode cX9_degree 16 = .ok (.iconst (-1), 1) := by decide +kernel
theorem dX9_degree_17 : decode cX9_degree 17 = .ok (.ireturn, 1) := by decide +kernel
theorem dX9_partsNow_0 : decode cX9_partsNow 0 = .ok (.iconst 0, 1) := by decide +kernel
theorem dX9_partsNow_1 : decode cX9_partsNow 1 = .ok (.istore_n 1, 1) := by decide +kernel
theorem dX9_partsNow_2 : decode cX9_partsNow 2 = .ok (.iload_n 1, 1) := by decide +kernel
theorem dX9_partsNow_3 : decode cX9_partsNow 3 = .ok (.aload_n 0, 1) := by decide +kernel
theorem dX9_partsNow_4 : decode cX9_partsNow 4 = .ok (.getfield 7, 3) := by decide +kernel
theorem dX9_partsNow_7 : decode cX9_partsNow 7 = .ok (.iconst 0, 1) := by decide +kernel
theorem dX9_partsNow_8 : decode cX9_partsNow 8 = .ok (.iaload, 1) := by decide +kernel
theorem dX9_partsNow_9 : decode cX9_partsNow 9 = .ok (.if_icmp .ge 16, 3) := by decide +kernel
theorem dX9_partsNow_12 : decode cX9_partsNow 12 = .ok (.aload_n 0, 1) := by decide +kernel
theorem dX9_partsNow_13 : decode cX9_partsNow 13 = .ok (.getfield 22, 3) := by decide +kernel
theorem dX9_partsNow_16 : decode cX9_partsNow 16 = .ok (.iload_n 1, 1) := by decide +kernel
theorem dX9_partsNow_17 : decode cX9_partsNow 17 = .ok (.iload_n 1, 1) := by decide +kernel
theorem dX9_partsNow_18 : decode cX9_partsNow 18 = .ok (.iastore, 1) := by decide +kernel
theorem dX9_partsNow_19 : decode cX9_partsNow 19 = .ok (.iinc 1 1, 3) := by decide +kernel
theorem dX9_partsNow_22 : decode cX9_partsNow 22 = .ok (.goto (-20), 3) := by decide +kernel
theorem dX9_partsNow_25 : decode cX9_partsNow 25 = .ok (.aload_n 0, 1) := by decide +kernel
theorem dX9_partsNow_26 : decode cX9_partsNow 26 = .ok (.getfield 7, 3) := by decide +kernel
theorem dX9_partsNow_29 : decode cX9_partsNow 29 = .ok (.iconst 0, 1) := by decide +kernel
theorem dX9_partsNow_30 : decode cX9_partsNow 30 = .ok (.iaload, 1) := by decide +kernel
theorem dX9_partsNow_31 : decode cX9_partsNow 31 = .ok (.istore_n 1, 1) := by decide +kernel
theorem dX9_partsNow_32 : decode cX9_partsNow 32 = .ok (.iconst 0, 1) := by decide +kernel
theorem dX9_partsNow_33 : decode cX9_partsNow 33 = .ok (.istore_n 2, 1) := by decide +kernel
theorem dX9_partsNow_34 : decode cX9_partsNow 34 = .ok (.iload_n 2, 1) := by decide +kernel
theorem dX9_partsNow_35 : decode cX9_partsNow 35 = .ok (.aload_n 0, 1) := by decide +kernel
theorem dX9_partsNow_36 : decode cX9_partsNow 36 = .ok (.getfield 7, 3) := by decide +kernel
theorem dX9_partsNow_39 : decode cX9_partsNow 39 = .ok (.iconst 1, 1) := by decide +kernel
theorem dX9_partsNow_40 : decode cX9_partsNow 40 = .ok (.iaload, 1) := by decide +kernel
theorem dX9_partsNow_41 : decode cX9_partsNow 41 = .ok (.if_icmp .ge 102, 3) := by decide +kernel
theorem dX9_partsNow_44 : decode cX9_partsNow 44 = .ok (.aload_n 0, 1) := by decide +kernel
theorem dX9_partsNow_45 : decode cX9_partsNow 45 = .ok (.getfield 22, 3) := by decide +kernel
theorem dX9_partsNow_48 : decode cX9_partsNow 48 = .ok (.aload_n 0, 1) := by decide +kernel
theorem dX9_partsNow_49 : decode cX9_partsNow 49 = .ok (.iconst 2, 1) := by decide +kernel
theorem dX9_partsNow_50 : decode cX9_partsNow 50 = .ok (.iload_n 2, 1) := by decide +kernel
theorem dX9_partsNow_51 : decode cX9_partsNow 51 = .ok (.imul, 1) := by decide +kernel
theorem dX9_partsNow_52 : decode cX9_partsNow 52 = .ok (.iconst 0, 1) := by decide +kernel
theorem dX9_partsNow_53 : decode cX9_partsNow 53 = .ok (.invokevirtual 96, 3) := by decide +kernel
theorem dX9_partsNow_56 : decode cX9_partsNow 56 = .ok (.iaload, 1) := by decide +kernel
theorem dX9_partsNow_57 : decode cX9_partsNow 57 = .ok (.istore_n 3, 1) := by decide +kernel
theorem dX9_partsNow_58 : decode cX9_partsNow 58 = .ok (.aload_n 0, 1) := by decide +kernel
theorem dX9_partsNow_59 : decode cX9_partsNow 59 = .ok (.getfield 22, 3) := by decide +kernel
theorem dX9_partsNow_62 : decode cX9_partsNow 62 = .ok (.aload_n 0, 1) := by decide +kernel
theorem dX9_partsNow_63 : decode cX9_partsNow 63 = .ok (.iconst 2, 1) := by decide +kernel
theorem dX9_partsNow_64 : decode cX9_partsNow 64 = .ok (.iload_n 2, 1) := by decide +kernel
theorem dX9_partsNow_65 : decode cX9_partsNow 65 = .ok (.imul, 1) := by decide +kernel
theorem dX9_partsNow_66 : decode cX9_partsNow 66 = .ok (.iconst 1, 1) := by decide +kernel
theorem dX9_partsNow_67 : decode cX9_partsNow 67 = .ok (.invokevirtual 96, 3) := by decide +kernel
theorem dX9_partsNow_70 : decode cX9_partsNow 70 = .ok (.iaload, 1) := by decide +kernel
theorem dX9_partsNow_71 : decode cX9_partsNow 71 = .ok (.istore 4, 2) := by decide +kernel
theorem dX9_partsNow_73 : decode cX9_partsNow 73 = .ok (.iload_n 1, 1) := by decide +kernel
theorem dX9_partsNow_74 : decode cX9_partsNow 74 = .ok (.iload_n 3, 1) := by decide +kernel
theorem dX9_partsNow_75 : decode cX9_partsNow 75 = .ok (.iload 4, 2) := by decide +kernel
theorem dX9_partsNow_77 : decode cX9_partsNow 77 = .ok (.if_icmp .ne 7, 3) := by decide +kernel
theorem dX9_partsNow_80 : decode cX9_partsNow 80 = .ok (.iconst 0, 1) := by decide +kernel
theorem dX9_partsNow_81 : decode cX9_partsNow 81 = .ok (.goto 4, 3) := by decide +kernel
theorem dX9_partsNow_84 : decode cX9_partsNow 84 = .ok (.iconst 1, 1) := by decide +kernel
theorem dX9_partsNow_85 : decode cX9_partsNow 85 = .ok (.isub, 1) := by decide +kernel
theorem dX9_partsNow_86 : decode cX9_partsNow 86 = .ok (.istore_n 1, 1) := by decide +kernel
theorem dX9_partsNow_87 : decode cX9_partsNow 87 = .ok (.iconst 0, 1) := by decide +kernel
theorem dX9_partsNow_88 : decode cX9_partsNow 88 = .ok (.istore 5, 2) := by decide +kernel
theorem dX9_partsNow_90 : decode cX9_partsNow 90 = .ok (.iload 5, 2) := by decide +kernel
theorem dX9_partsNow_92 : decode cX9_partsNow 92 = .ok (.aload_n 0, 1) := by decide +kernel
theorem dX9_partsNow_93 : decode cX9_partsNow 93 = .ok (.getfield 7, 3) := by decide +kernel
theorem dX9_partsNow_96 : decode cX9_partsNow 96 = .ok (.iconst 0, 1) := by decide +kernel
theorem dX9_partsNow_97 : decode cX9_partsNow 97 = .ok (.iaload, 1) := by decide +kernel
theorem dX9_partsNow_98 : decode cX9_partsNow 98 = .ok (.if_icmp .ge 39, 3) := by decide +kernel
theorem dX9_partsNow_101 : decode cX9_partsNow 101 = .ok (.aload_n 0, 1) := by decide +kernel
theorem dX9_partsNow_102 : decode cX9_partsNow 102 = .ok (.getfield 22, 3) := by decide +kernel
theorem dX9_partsNow_105 : decode cX9_partsNow 105 = .ok (.iload 5, 2) := by decide +kernel
theorem dX9_partsNow_107 : decode cX9_partsNow 107 = .ok (.aload_n 0, 1) := by decide +kernel
theorem dX9_partsNow_108 : decode cX9_partsNow 108 = .ok (.getfield 22, 3) := by decide +kernel
theorem dX9_partsNow_111 : decode cX9_partsNow 111 = .ok (.iload 5, 2) := by decide +kernel
theorem dX9_partsNow_113 : decode cX9_partsNow 113 = .ok (.iaload, 1) := by decide +kernel
theorem dX9_partsNow_114 : decode cX9_partsNow 114 = .ok (.iload_n 3, 1) := by decide +kernel
theorem dX9_partsNow_115 : decode cX9_partsNow 115 = .ok (.if_icmp .ne 8, 3) := by decide +kernel
theorem dX9_partsNow_118 : decode cX9_partsNow 118 = .ok (.iload 4, 2) := by decide +kernel
theorem dX9_partsNow_120 : decode cX9_partsNow 120 = .ok (.goto 10, 3) := by decide +kernel
theorem dX9_partsNow_123 : decode cX9_partsNow 123 = .ok (.aload_n 0, 1) := by decide +kernel
theorem dX9_partsNow_124 : decode cX9_partsNow 124 = .ok (.getfield 22, 3) := by decide +kernel
theorem dX9_partsNow_127 : decode cX9_partsNow 127 = .ok (.iload 5, 2) := by decide +kernel
theorem dX9_partsNow_129 : decode cX9_partsNow 129 = .ok (.iaload, 1) := by decide +kernel
theorem dX9_partsNow_130 : decode cX9_partsNow 130 = .ok (.iastore, 1) := by decide +kernel
theorem dX9_partsNow_131 : decode cX9_partsNow 131 = .ok (.iinc 5 1, 3) := by decide +kernel
theorem dX9_partsNow_134 : decode cX9_partsNow 134 = .ok (.goto (-44), 3) := by decide +kernel
theorem dX9_partsNow_137 : decode cX9_partsNow 137 = .ok (.iinc 2 1, 3) := by decide +kernel
theorem dX9_partsNow_140 : decode cX9_partsNow 140 = .ok (.goto (-106), 3) := by decide +kernel
theorem dX9_partsNow_143 : decode cX9_partsNow 143 = .ok (.iload_n 1, 1) := by decide +kernel
theorem dX9_partsNow_144 : decode cX9_partsNow 144 = .ok (.ireturn, 1) := by decide +kernel
theorem dX9_components_0 : decode cX9_components 0 = .ok (.aload_n 0, 1) := by decide +kernel
theorem dX9_components_1 : decode cX9_components 1 = .ok (.invokevirtual 111, 3) := by decide +kernel
theorem dX9_components_4 : decode cX9_components 4 = .ok (.ireturn, 1) := by decide +kernel
theorem dX9_rank_0 : decode cX9_rank 0 = .ok (.aload_n 0, 1) := by decide +kernel
theorem dX9_rank_1 : decode cX9_rank 1 = .ok (.getfield 7, 3) := by decide +kernel
theorem dX9_rank_4 : decode cX9_rank 4 = .ok (.iconst 1, 1) := by decide +kernel
theorem dX9_rank_5 : decode cX9_rank 5 = .ok (.iaload, 1) := by decide +kernel
theorem dX9_rank_6 : decode cX9_rank 6 = .ok (.aload_n 0, 1) := by decide +kernel
theorem dX9_rank_7 : decode cX9_rank 7 = .ok (.getfield 7, 3) := by decide +kernel
theorem dX9_rank_10 : decode cX9_rank 10 = .ok (.iconst 0, 1) := by decide +kernel
theorem dX9_rank_11 : decode cX9_rank 11 = .ok (.iaload, 1) := by decide +kernel
theorem dX9_rank_12 : decode cX9_rank 12 = .ok (.isub, 1) := by decide +kernel
theorem dX9_rank_13 : decode cX9_rank 13 = .ok (.aload_n 0, 1) := by decide +kernel
theorem dX9_rank_14 : decode cX9_rank 14 = .ok (.invokevirtual 111, 3) := by decide +kernel
theorem dX9_rank_17 : decode cX9_rank 17 = .ok (.iadd, 1) := by decide +kernel
theorem dX9_rank_18 : decode cX9_rank 18 = .ok (.ireturn, 1) := by decide +kernel
theorem dX9_isBalanced_0 : decode cX9_isBalanced 0 = .ok (.iconst 0, 1) := by decide +kernel
theorem dX9_isBalanced_1 : decode cX9_isBalanced 1 = .ok (.istore_n 1, 1) := by decide +kernel
theorem dX9_isBalanced_2 : decode cX9_isBalanced 2 = .ok (.iload_n 1, 1) := by decide +kernel
theorem dX9_isBalanced_3 : decode cX9_isBalanced 3 = .ok (.iconst 1, 1) := by decide +kernel
theorem dX9_isBalanced_4 : decode cX9_isBalanced 4 = .ok (.aload_n 0, 1) := by decide +kernel
theorem dX9_isBalanced_5 : decode cX9_isBalanced 5 = .ok (.getfield 7, 3) := by decide +kernel
theorem dX9_isBalanced_8 : decode cX9_isBalanced 8 = .ok (.iconst 0, 1) := by decide +kernel
theorem dX9_isBalanced_9 : decode cX9_isBalanced 9 = .ok (.iaload, 1) := by decide +kernel
theorem dX9_isBalanced_10 : decode cX9_isBalanced 10 = .ok (.ishl, 1) := by decide +kernel
theorem dX9_isBalanced_11 : decode cX9_isBalanced 11 = .ok (.if_icmp .ge 100, 3) := by decide +kernel
theorem dX9_isBalanced_14 : decode cX9_isBalanced 14 = .ok (.iconst 1, 1) := by decide +kernel
theorem dX9_isBalanced_15 : decode cX9_isBalanced 15 = .ok (.istore_n 2, 1) := by decide +kernel
theorem dX9_isBalanced_16 : decode cX9_isBalanced 16 = .ok (.iconst 0, 1) := by decide +kernel
theorem dX9_isBalanced_17 : decode cX9_isBalanced 17 = .ok (.istore_n 3, 1) := by decide +kernel
theorem dX9_isBalanced_18 : decode cX9_isBalanced 18 = .ok (.iload_n 3, 1) := by decide +kernel
theorem dX9_isBalanced_19 : decode cX9_isBalanced 19 = .ok (.aload_n 0, 1) := by decide +kernel
theorem dX9_isBalanced_20 : decode cX9_isBalanced 20 = .ok (.getfield 7, 3) := by decide +kernel
theorem dX9_isBalanced_23 : decode cX9_isBalanced 23 = .ok (.iconst 1, 1) := by decide +kernel
theorem dX9_isBalanced_24 : decode cX9_isBalanced 24 = .ok (.iaload, 1) := by decide +kernel
theorem dX9_isBalanced_25 : decode cX9_isBalanced 25 = .ok (.if_icmp .ge 74, 3) := by decide +kernel
theorem dX9_isBalanced_28 : decode cX9_isBalanced 28 = .ok (.iload_n 1, 1) := by decide +kernel
theorem dX9_isBalanced_29 : decode cX9_isBalanced 29 = .ok (.aload_n 0, 1) := by decide +kernel
theorem dX9_isBalanced_30 : decode cX9_isBalanced 30 = .ok (.iconst 2, 1) := by decide +kernel
theorem dX9_isBalanced_31 : decode cX9_isBalanced 31 = .ok (.iload_n 3, 1) := by decide +kernel
theorem dX9_isBalanced_32 : decode cX9_isBalanced 32 = .ok (.imul, 1) := by decide +kernel
theorem dX9_isBalanced_33 : decode cX9_isBalanced 33 = .ok (.iconst 0, 1) := by decide +kernel
theorem dX9_isBalanced_34 : decode cX9_isBalanced 34 = .ok (.invokevirtual 96, 3) := by decide +kernel
theorem dX9_isBalanced_37 : decode cX9_isBalanced 37 = .ok (.ishr, 1) := by decide +kernel
theorem dX9_isBalanced_38 : decode cX9_isBalanced 38 = .ok (.iconst 1, 1) := by decide +kernel
theorem dX9_isBalanced_39 : decode cX9_isBalanced 39 = .ok (.iand, 1) := by decide +kernel
theorem dX9_isBalanced_40 : decode cX9_isBalanced 40 = .ok (.iload_n 1, 1) := by decide +kernel
theorem dX9_isBalanced_41 : decode cX9_isBalanced 41 = .ok (.aload_n 0, 1) := by decide +kernel
theorem dX9_isBalanced_42 : decode cX9_isBalanced 42 = .ok (.iconst 2, 1) := by decide +kernel
theorem dX9_isBalanced_43 : decode cX9_isBalanced 43 = .ok (.iload_n 3, 1) := by decide +kernel
theorem dX9_isBalanced_44 : decode cX9_isBalanced 44 = .ok (.imul, 1) := by decide +kernel
theorem dX9_isBalanced_45 : decode cX9_isBalanced 45 = .ok (.iconst 1, 1) := by decide +kernel
theorem dX9_isBalanced_46 : decode cX9_isBalanced 46 = .ok (.invokevirtual 96, 3) := by decide +kernel
theorem dX9_isBalanced_49 : decode cX9_isBalanced 49 = .ok (.ishr, 1) := by decide +kernel
theorem dX9_isBalanced_50 : decode cX9_isBalanced 50 = .ok (.iconst 1, 1) := by decide +kernel
theorem dX9_isBalanced_51 : decode cX9_isBalanced 51 = .ok (.iand, 1) := by decide +kernel
theorem dX9_isBalanced_52 : decode cX9_isBalanced 52 = .ok (.if_icmp .eq 7, 3) := by decide +kernel
theorem dX9_isBalanced_55 : decode cX9_isBalanced 55 = .ok (.iconst 1, 1) := by decide +kernel
theorem dX9_isBalanced_56 : decode cX9_isBalanced 56 = .ok (.goto 4, 3) := by decide +kernel
theorem dX9_isBalanced_59 : decode cX9_isBalanced 59 = .ok (.iconst 0, 1) := by decide +kernel
theorem dX9_isBalanced_60 : decode cX9_isBalanced 60 = .ok (.istore 4, 2) := by decide +kernel
theorem dX9_isBalanced_62 : decode cX9_isBalanced 62 = .ok (.iload_n 2, 1) := by decide +kernel
theorem dX9_isBalanced_63 : decode cX9_isBalanced 63 = .ok (.ifCond .eq 28, 3) := by decide +kernel
theorem dX9_isBalanced_66 : decode cX9_isBalanced 66 = .ok (.iload 4, 2) := by decide +kernel
theorem dX9_isBalanced_68 : decode cX9_isBalanced 68 = .ok (.aload_n 0, 1) := by decide +kernel
theorem dX9_isBalanced_69 : decode cX9_isBalanced 69 = .ok (.iconst 2, 1) := by decide +kernel
theorem dX9_isBalanced_70 : decode cX9_isBalanced 70 = .ok (.iload_n 3, 1) := by decide +kernel
theorem dX9_isBalanced_71 : decode cX9_isBalanced 71 = .ok (.imul, 1) := by decide +kernel
theorem dX9_isBalanced_72 : decode cX9_isBalanced 72 = .ok (.invokevirtual 114, 3) := by decide +kernel
theorem dX9_isBalanced_75 : decode cX9_isBalanced 75 = .ok (.iconst (-1), 1) := by decide +kernel
theorem dX9_isBalanced_76 : decode cX9_isBalanced 76 = .ok (.if_icmp .ne 7, 3) := by decide +kernel
theorem dX9_isBalanced_79 : decode cX9_isBalanced 79 = .ok (.iconst 1, 1) := by decide +kernel
theorem dX9_isBalanced_80 : decode cX9_isBalanced 80 = .ok (.goto 4, 3) := by decide +kernel
theorem dX9_isBalanced_83 : decode cX9_isBalanced 83 = .ok (.iconst 0, 1) := by decide +kernel
theorem dX9_isBalanced_84 : decode cX9_isBalanced 84 = .ok (.if_icmp .ne 7, 3) := by decide +kernel
theorem dX9_isBalanced_87 : decode cX9_isBalanced 87 = .ok (.iconst 1, 1) := by decide +kernel
theorem dX9_isBalanced_88 : decode cX9_isBalanced 88 = .ok (.goto 4, 3) := by decide +kernel
theorem dX9_isBalanced_91 : decode cX9_isBalanced 91 = .ok (.iconst 0, 1) := by decide +kernel
theorem dX9_isBalanced_92 : decode cX9_isBalanced 92 = .ok (.istore_n 2, 1) := by decide +kernel
theorem dX9_isBalanced_93 : decode cX9_isBalanced 93 = .ok (.iinc 3 1, 3) := by decide +kernel
theorem dX9_isBalanced_96 : decode cX9_isBalanced 96 = .ok (.goto (-78), 3) := by decide +kernel
theorem dX9_isBalanced_99 : decode cX9_isBalanced 99 = .ok (.iload_n 2, 1) := by decide +kernel
theorem dX9_isBalanced_100 : decode cX9_isBalanced 100 = .ok (.ifCond .eq 5, 3) := by decide +kernel
theorem dX9_isBalanced_103 : decode cX9_isBalanced 103 = .ok (.iconst 1, 1) := by decide +kernel
theorem dX9_isBalanced_104 : decode cX9_isBalanced 104 = .ok (.ireturn, 1) := by decide +kernel
theorem dX9_isBalanced_105 : decode cX9_isBalanced 105 = .ok (.iinc 1 1, 3) := by decide +kernel
theorem dX9_isBalanced_108 : decode cX9_isBalanced 108 = .ok (.goto (-106), 3) := by decide +kernel
theorem dX9_isBalanced_111 : decode cX9_isBalanced 111 = .ok (.iconst 0, 1) := by decide +kernel
theorem dX9_isBalanced_112 : decode cX9_isBalanced 112 = .ok (.ireturn, 1) := by decide +kernel
theorem dX9_laysEdges_0 : decode cX9_laysEdges 0 = .ok (.aload_n 0, 1) := by decide +kernel
theorem dX9_laysEdges_1 : decode cX9_laysEdges 1 = .ok (.iconst 2, 1) := by decide +kernel
theorem dX9_laysEdges_2 : decode cX9_laysEdges 2 = .ok (.aload_n 0, 1) := by decide +kernel
theorem dX9_laysEdges_3 : decode cX9_laysEdges 3 = .ok (.getfield 7, 3) := by decide +kernel
theorem dX9_laysEdges_6 : decode cX9_laysEdges 6 = .ok (.iconst 1, 1) := by decide +kernel
theorem dX9_laysEdges_7 : decode cX9_laysEdges 7 = .ok (.iaload, 1) := by decide +kernel
theorem dX9_laysEdges_8 : decode cX9_laysEdges 8 = .ok (.imul, 1) := by decide +kernel
theorem dX9_laysEdges_9 : decode cX9_laysEdges 9 = .ok (.putfield 117, 3) := by decide +kernel
theorem dX9_laysEdges_12 : decode cX9_laysEdges 12 = .ok (.iconst 0, 1) := by decide +kernel
theorem dX9_laysEdges_13 : decode cX9_laysEdges 13 = .ok (.istore_n 2, 1) := by decide +kernel
theorem dX9_laysEdges_14 : decode cX9_laysEdges 14 = .ok (.iload_n 2, 1) := by decide +kernel
theorem dX9_laysEdges_15 : decode cX9_laysEdges 15 = .ok (.aload_n 0, 1) := by decide +kernel
theorem dX9_laysEdges_16 : decode cX9_laysEdges 16 = .ok (.getfield 117, 3) := by decide +kernel
theorem dX9_laysEdges_19 : decode cX9_laysEdges 19 = .ok (.if_icmp .ge 70, 3) := by decide +kernel
theorem dX9_laysEdges_22 : decode cX9_laysEdges 22 = .ok (.iconst 0, 1) := by decide +kernel
theorem dX9_laysEdges_23 : decode cX9_laysEdges 23 = .ok (.istore_n 3, 1) := by decide +kernel
theorem dX9_laysEdges_24 : decode cX9_laysEdges 24 = .ok (.iload_n 3, 1) := by decide +kernel
theorem dX9_laysEdges_25 : decode cX9_laysEdges 25 = .ok (.aload_n 0, 1) := by decide +kernel
theorem dX9_laysEdges_26 : decode cX9_laysEdges 26 = .ok (.getfield 117, 3) := by decide +kernel
theorem dX9_laysEdges_29 : decode cX9_laysEdges 29 = .ok (.if_icmp .ge 54, 3) := by decide +kernel
theorem dX9_laysEdges_32 : decode cX9_laysEdges 32 = .ok (.aload_n 0, 1) := by decide +kernel
theorem dX9_laysEdges_33 : decode cX9_laysEdges 33 = .ok (.iload_n 2, 1) := by decide +kernel
theorem dX9_laysEdges_34 : decode cX9_laysEdges 34 = .ok (.iload_n 3, 1) := by decide +kernel
theorem dX9_laysEdges_35 : decode cX9_laysEdges 35 = .ok (.invokevirtual 103, 3) := by decide +kernel
theorem dX9_laysEdges_38 : decode cX9_laysEdges 38 = .ok (.ifCond .eq 7, 3) := by decide +kernel
theorem dX9_laysEdges_41 : decode cX9_laysEdges 41 = .ok (.lconst 1, 1) := by decide +kernel
theorem dX9_laysEdges_42 : decode cX9_laysEdges 42 = .ok (.goto 4, 3) := by decide +kernel
theorem dX9_laysEdges_45 : decode cX9_laysEdges 45 = .ok (.lconst 0, 1) := by decide +kernel
theorem dX9_laysEdges_46 : decode cX9_laysEdges 46 = .ok (.lstore 4, 2) := by decide +kernel
theorem dX9_laysEdges_48 : decode cX9_laysEdges 48 = .ok (.aload_n 0, 1) := by decide +kernel
theorem dX9_laysEdges_49 : decode cX9_laysEdges 49 = .ok (.getfield 25, 3) := by decide +kernel
theorem dX9_laysEdges_52 : decode cX9_laysEdges 52 = .ok (.bipush 18, 2) := by decide +kernel
theorem dX9_laysEdges_54 : decode cX9_laysEdges 54 = .ok (.iload_n 2, 1) := by decide +kernel
theorem dX9_laysEdges_55 : decode cX9_laysEdges 55 = .ok (.imul, 1) := by decide +kernel
theorem dX9_laysEdges_56 : decode cX9_laysEdges 56 = .ok (.iload_n 3, 1) := by decide +kernel
theorem dX9_laysEdges_57 : decode cX9_laysEdges 57 = .ok (.iadd, 1) := by decide +kernel
theorem dX9_laysEdges_58 : decode cX9_laysEdges 58 = .ok (.iload_n 1, 1) := by decide +kernel
theorem dX9_laysEdges_59 : decode cX9_laysEdges 59 = .ok (.ifCond .eq 15, 3) := by decide +kernel
theorem dX9_laysEdges_62 : decode cX9_laysEdges 62 = .ok (.lload 4, 2) := by decide +kernel
theorem dX9_laysEdges_64 : decode cX9_laysEdges 64 = .ok (.aload_n 0, 1) := by decide +kernel
theorem dX9_laysEdges_65 : decode cX9_laysEdges 65 = .ok (.iload_n 2, 1) := by decide +kernel
theorem dX9_laysEdges_66 : decode cX9_laysEdges 66 = .ok (.invokevirtual 114, 3) := by decide +kernel
theorem dX9_laysEdges_69 : decode cX9_laysEdges 69 = .ok (.i2l, 1) := by decide +kernel
theorem dX9_laysEdges_70 : decode cX9_laysEdges 70 = .ok (.lmul, 1) := by decide +kernel
theorem dX9_laysEdges_71 : decode cX9_laysEdges 71 = .ok (.goto 5, 3) := by decide +kernel
theorem dX9_laysEdges_74 : decode cX9_laysEdges 74 = .ok (.lload 4, 2) := by decide +kernel
theorem dX9_laysEdges_76 : decode cX9_laysEdges 76 = .ok (.lastore, 1) := by decide +kernel
theorem dX9_laysEdges_77 : decode cX9_laysEdges 77 = .ok (.iinc 3 1, 3) := by decide +kernel
theorem dX9_laysEdges_80 : decode cX9_laysEdges 80 = .ok (.goto (-56), 3) := by decide +kernel
theorem dX9_laysEdges_83 : decode cX9_laysEdges 83 = .ok (.iinc 2 1, 3) := by decide +kernel
theorem dX9_laysEdges_86 : decode cX9_laysEdges 86 = .ok (.goto (-72), 3) := by decide +kernel
theorem dX9_laysEdges_89 : decode cX9_laysEdges 89 = .ok (.return_, 1) := by decide +kernel
theorem dX9_laysVertices_0 : decode cX9_laysVertices 0 = .ok (.aload_n 0, 1) := by decide +kernel
theorem dX9_laysVertices_1 : decode cX9_laysVertices 1 = .ok (.getfield 7, 3) := by decide +kernel
theorem dX9_laysVertices_4 : decode cX9_laysVertices 4 = .ok (.iconst 0, 1) := by decide +kernel
theorem dX9_laysVertices_5 : decode cX9_laysVertices 5 = .ok (.iaload, 1) := by decide +kernel
theorem dX9_laysVertices_6 : decode cX9_laysVertices 6 = .ok (.istore_n 1, 1) := by decide +kernel
theorem dX9_laysVertices_7 : decode cX9_laysVertices 7 = .ok (.aload_n 0, 1) := by decide +kernel
theorem dX9_laysVertices_8 : decode cX9_laysVertices 8 = .ok (.iconst 2, 1) := by decide +kernel
theorem dX9_laysVertices_9 : decode cX9_laysVertices 9 = .ok (.iload_n 1, 1) := by decide +kernel
theorem dX9_laysVertices_10 : decode cX9_laysVertices 10 = .ok (.imul, 1) := by decide +kernel
theorem dX9_laysVertices_11 : decode cX9_laysVertices 11 = .ok (.putfield 117, 3) := by decide +kernel
theorem dX9_laysVertices_14 : decode cX9_laysVertices 14 = .ok (.iconst 0, 1) := by decide +kernel
theorem dX9_laysVertices_15 : decode cX9_laysVertices 15 = .ok (.istore_n 2, 1) := by decide +kernel
theorem dX9_laysVertices_16 : decode cX9_laysVertices 16 = .ok (.iload_n 2, 1) := by decide +kernel
theorem dX9_laysVertices_17 : decode cX9_laysVertices 17 = .ok (.bipush 18, 2) := by decide +kernel
theorem dX9_laysVertices_19 : decode cX9_laysVertices 19 = .ok (.aload_n 0, 1) := by decide +kernel
theorem dX9_laysVertices_20 : decode cX9_laysVertices 20 = .ok (.getfield 117, 3) := by decide +kernel
theorem dX9_laysVertices_23 : decode cX9_laysVertices 23 = .ok (.imul, 1) := by decide +kernel
theorem dX9_laysVertices_24 : decode cX9_laysVertices 24 = .ok (.if_icmp .ge 16, 3) := by decide +kernel
theorem dX9_laysVertices_27 : decode cX9_laysVertices 27 = .ok (.aload_n 0, 1) := by decide +kernel
theorem dX9_laysVertices_28 : decode cX9_laysVertices 28 = .ok (.getfield 25, 3) := by decide +kernel
theorem dX9_laysVertices_31 : decode cX9_laysVertices 31 = .ok (.iload_n 2, 1) := by decide +kernel
theorem dX9_laysVertices_32 : decode cX9_laysVertices 32 = .ok (.lconst 0, 1) := by decide +kernel
theorem dX9_laysVertices_33 : decode cX9_laysVertices 33 = .ok (.lastore, 1) := by decide +kernel
theorem dX9_laysVertices_34 : decode cX9_laysVertices 34 = .ok (.iinc 2 1, 3) := by decide +kernel
theorem dX9_laysVertices_37 : decode cX9_laysVertices 37 = .ok (.goto (-21), 3) := by decide +kernel
theorem dX9_laysVertices_40 : decode cX9_laysVertices 40 = .ok (.iconst 0, 1) := by decide +kernel
theorem dX9_laysVertices_41 : decode cX9_laysVertices 41 = .ok (.istore_n 2, 1) := by decide +kernel
theorem dX9_laysVertices_42 : decode cX9_laysVertices 42 = .ok (.iload_n 2, 1) := by decide +kernel
theorem dX9_laysVertices_43 : decode cX9_laysVertices 43 = .ok (.iconst 2, 1) := by decide +kernel
theorem dX9_laysVertices_44 : decode cX9_laysVertices 44 = .ok (.aload_n 0, 1) := by decide +kernel
theorem dX9_laysVertices_45 : decode cX9_laysVertices 45 = .ok (.getfield 7, 3) := by decide +kernel
theorem dX9_laysVertices_48 : decode cX9_laysVertices 48 = .ok (.iconst 1, 1) := by decide +kernel
theorem dX9_laysVertices_49 : decode cX9_laysVertices 49 = .ok (.iaload, 1) := by decide +kernel
theorem dX9_laysVertices_50 : decode cX9_laysVertices 50 = .ok (.imul, 1) := by decide +kernel
theorem dX9_laysVertices_51 : decode cX9_laysVertices 51 = .ok (.if_icmp .ge 34, 3) := by decide +kernel
theorem dX9_laysVertices_54 : decode cX9_laysVertices 54 = .ok (.aload_n 0, 1) := by decide +kernel
theorem dX9_laysVertices_55 : decode cX9_laysVertices 55 = .ok (.getfield 25, 3) := by decide +kernel
theorem dX9_laysVertices_58 : decode cX9_laysVertices 58 = .ok (.bipush 18, 2) := by decide +kernel
theorem dX9_laysVertices_60 : decode cX9_laysVertices 60 = .ok (.aload_n 0, 1) := by decide +kernel
theorem dX9_laysVertices_61 : decode cX9_laysVertices 61 = .ok (.iload_n 2, 1) := by decide +kernel
theorem dX9_laysVertices_62 : decode cX9_laysVertices 62 = .ok (.iconst 0, 1) := by decide +kernel
theorem dX9_laysVertices_63 : decode cX9_laysVertices 63 = .ok (.invokevirtual 96, 3) := by decide +kernel
theorem dX9_laysVertices_66 : decode cX9_laysVertices 66 = .ok (.imul, 1) := by decide +kernel
theorem dX9_laysVertices_67 : decode cX9_laysVertices 67 = .ok (.aload_n 0, 1) := by decide +kernel
theorem dX9_laysVertices_68 : decode cX9_laysVertices 68 = .ok (.iload_n 2, 1) := by decide +kernel
theorem dX9_laysVertices_69 : decode cX9_laysVertices 69 = .ok (.iconst 1, 1) := by decide +kernel
theorem dX9_laysVertices_70 : decode cX9_laysVertices 70 = .ok (.invokevirtual 96, 3) := by decide +kernel
theorem dX9_laysVertices_73 : decode cX9_laysVertices 73 = .ok (.iadd, 1) := by decide +kernel
theorem dX9_laysVertices_74 : decode cX9_laysVertices 74 = .ok (.dup2, 1) := by decide +kernel
theorem dX9_laysVertices_75 : decode cX9_laysVertices 75 = .ok (.laload, 1) := by decide +kernel
theorem dX9_laysVertices_76 : decode cX9_laysVertices 76 = .ok (.lconst 1, 1) := by decide +kernel
theorem dX9_laysVertices_77 : decode cX9_laysVertices 77 = .ok (.ladd, 1) := by decide +kernel
theorem dX9_laysVertices_78 : decode cX9_laysVertices 78 = .ok (.lastore, 1) := by decide +kernel
theorem dX9_laysVertices_79 : decode cX9_laysVertices 79 = .ok (.iinc 2 1, 3) := by decide +kernel
theorem dX9_laysVertices_82 : decode cX9_laysVertices 82 = .ok (.goto (-40), 3) := by decide +kernel
theorem dX9_laysVertices_85 : decode cX9_laysVertices 85 = .ok (.iconst 0, 1) := by decide +kernel
theorem dX9_laysVertices_86 : decode cX9_laysVertices 86 = .ok (.istore_n 2, 1) := by decide +kernel
theorem dX9_laysVertices_87 : decode cX9_laysVertices 87 = .ok (.iload_n 2, 1) := by decide +kernel
theorem dX9_laysVertices_88 : decode cX9_laysVertices 88 = .ok (.iload_n 1, 1) := by decide +kernel
theorem dX9_laysVertices_89 : decode cX9_laysVertices 89 = .ok (.if_icmp .ge 44, 3) := by decide +kernel
theorem dX9_laysVertices_92 : decode cX9_laysVertices 92 = .ok (.aload_n 0, 1) := by decide +kernel
theorem dX9_laysVertices_93 : decode cX9_laysVertices 93 = .ok (.getfield 25, 3) := by decide +kernel
theorem dX9_laysVertices_96 : decode cX9_laysVertices 96 = .ok (.bipush 18, 2) := by decide +kernel
theorem dX9_laysVertices_98 : decode cX9_laysVertices 98 = .ok (.iload_n 2, 1) := by decide +kernel
theorem dX9_laysVertices_99 : decode cX9_laysVertices 99 = .ok (.imul, 1) := by decide +kernel
theorem dX9_laysVertices_100 : decode cX9_laysVertices 100 = .ok (.iload_n 1, 1) := by decide +kernel
theorem dX9_laysVertices_101 : decode cX9_laysVertices 101 = .ok (.iadd, 1) := by decide +kernel
theorem dX9_laysVertices_102 : decode cX9_laysVertices 102 = .ok (.iload_n 2, 1) := by decide +kernel
theorem dX9_laysVertices_103 : decode cX9_laysVertices 103 = .ok (.iadd, 1) := by decide +kernel
theorem dX9_laysVertices_104 : decode cX9_laysVertices 104 = .ok (.lconst 1, 1) := by decide +kernel
theorem dX9_laysVertices_105 : decode cX9_laysVertices 105 = .ok (.aload_n 0, 1) := by decide +kernel
theorem dX9_laysVertices_106 : decode cX9_laysVertices 106 = .ok (.iload_n 2, 1) := by decide +kernel
theorem dX9_laysVertices_107 : decode cX9_laysVertices 107 = .ok (.invokevirtual 107, 3) := by decide +kernel
theorem dX9_laysVertices_110 : decode cX9_laysVertices 110 = .ok (.i2l, 1) := by decide +kernel
theorem dX9_laysVertices_111 : decode cX9_laysVertices 111 = .ok (.lsub, 1) := by decide +kernel
theorem dX9_laysVertices_112 : decode cX9_laysVertices 112 = .ok (.lastore, 1) := by decide +kernel
theorem dX9_laysVertices_113 : decode cX9_laysVertices 113 = .ok (.aload_n 0, 1) := by decide +kernel
theorem dX9_laysVertices_114 : decode cX9_laysVertices 114 = .ok (.getfield 25, 3) := by decide +kernel
theorem dX9_laysVertices_117 : decode cX9_laysVertices 117 = .ok (.bipush 18, 2) := by decide +kernel
theorem dX9_laysVertices_119 : decode cX9_laysVertices 119 = .ok (.iload_n 1, 1) := by decide +kernel
theorem dX9_laysVertices_120 : decode cX9_laysVertices 120 = .ok (.iload_n 2, 1) := by decide +kernel
theorem dX9_laysVertices_121 : decode cX9_laysVertices 121 = .ok (.iadd, 1) := by decide +kernel
theorem dX9_laysVertices_122 : decode cX9_laysVertices 122 = .ok (.imul, 1) := by decide +kernel
theorem dX9_laysVertices_123 : decode cX9_laysVertices 123 = .ok (.iload_n 2, 1) := by decide +kernel
theorem dX9_laysVertices_124 : decode cX9_laysVertices 124 = .ok (.iadd, 1) := by decide +kernel
theorem dX9_laysVertices_125 : decode cX9_laysVertices 125 = .ok (.lconst 1, 1) := by decide +kernel
theorem dX9_laysVertices_126 : decode cX9_laysVertices 126 = .ok (.lastore, 1) := by decide +kernel
theorem dX9_laysVertices_127 : decode cX9_laysVertices 127 = .ok (.iinc 2 1, 3) := by decide +kernel
theorem dX9_laysVertices_130 : decode cX9_laysVertices 130 = .ok (.goto (-43), 3) := by decide +kernel
theorem dX9_laysVertices_133 : decode cX9_laysVertices 133 = .ok (.return_, 1) := by decide +kernel
theorem dX9_laysTrees_0 : decode cX9_laysTrees 0 = .ok (.aload_n 0, 1) := by decide +kernel
theorem dX9_laysTrees_1 : decode cX9_laysTrees 1 = .ok (.aload_n 0, 1) := by decide +kernel
theorem dX9_laysTrees_2 : decode cX9_laysTrees 2 = .ok (.getfield 7, 3) := by decide +kernel
theorem dX9_laysTrees_5 : decode cX9_laysTrees 5 = .ok (.iconst 0, 1) := by decide +kernel
theorem dX9_laysTrees_6 : decode cX9_laysTrees 6 = .ok (.iaload, 1) := by decide +kernel
theorem dX9_laysTrees_7 : decode cX9_laysTrees 7 = .ok (.iconst 1, 1) := by decide +kernel
theorem dX9_laysTrees_8 : decode cX9_laysTrees 8 = .ok (.isub, 1) := by decide +kernel
theorem dX9_laysTrees_9 : decode cX9_laysTrees 9 = .ok (.putfield 117, 3) := by decide +kernel
theorem dX9_laysTrees_12 : decode cX9_laysTrees 12 = .ok (.iconst 0, 1) := by decide +kernel
theorem dX9_laysTrees_13 : decode cX9_laysTrees 13 = .ok (.istore_n 1, 1) := by decide +kernel
theorem dX9_laysTrees_14 : decode cX9_laysTrees 14 = .ok (.iload_n 1, 1) := by decide +kernel
theorem dX9_laysTrees_15 : decode cX9_laysTrees 15 = .ok (.sipush 324, 3) := by decide +kernel
theorem dX9_laysTrees_18 : decode cX9_laysTrees 18 = .ok (.if_icmp .ge 16, 3) := by decide +kernel
theorem dX9_laysTrees_21 : decode cX9_laysTrees 21 = .ok (.aload_n 0, 1) := by decide +kernel
theorem dX9_laysTrees_22 : decode cX9_laysTrees 22 = .ok (.getfield 25, 3) := by decide +kernel
theorem dX9_laysTrees_25 : decode cX9_laysTrees 25 = .ok (.iload_n 1, 1) := by decide +kernel
theorem dX9_laysTrees_26 : decode cX9_laysTrees 26 = .ok (.lconst 0, 1) := by decide +kernel
theorem dX9_laysTrees_27 : decode cX9_laysTrees 27 = .ok (.lastore, 1) := by decide +kernel
theorem dX9_laysTrees_28 : decode cX9_laysTrees 28 = .ok (.iinc 1 1, 3) := by decide +kernel
theorem dX9_laysTrees_31 : decode cX9_laysTrees 31 = .ok (.goto (-17), 3) := by decide +kernel
theorem dX9_laysTrees_34 : decode cX9_laysTrees 34 = .ok (.iconst 0, 1) := by decide +kernel
theorem dX9_laysTrees_35 : decode cX9_laysTrees 35 = .ok (.istore_n 1, 1) := by decide +kernel
theorem dX9_laysTrees_36 : decode cX9_laysTrees 36 = .ok (.iload_n 1, 1) := by decide +kernel
theorem dX9_laysTrees_37 : decode cX9_laysTrees 37 = .ok (.iconst 2, 1) := by decide +kernel
theorem dX9_laysTrees_38 : decode cX9_laysTrees 38 = .ok (.aload_n 0, 1) := by decide +kernel
theorem dX9_laysTrees_39 : decode cX9_laysTrees 39 = .ok (.getfield 7, 3) := by decide +kernel
theorem dX9_laysTrees_42 : decode cX9_laysTrees 42 = .ok (.iconst 1, 1) := by decide +kernel
theorem dX9_laysTrees_43 : decode cX9_laysTrees 43 = .ok (.iaload, 1) := by decide +kernel
theorem dX9_laysTrees_44 : decode cX9_laysTrees 44 = .ok (.imul, 1) := by decide +kernel
theorem dX9_laysTrees_45 : decode cX9_laysTrees 45 = .ok (.if_icmp .ge 53, 3) := by decide +kernel
theorem dX9_laysTrees_48 : decode cX9_laysTrees 48 = .ok (.aload_n 0, 1) := by decide +kernel
theorem dX9_laysTrees_49 : decode cX9_laysTrees 49 = .ok (.iload_n 1, 1) := by decide +kernel
theorem dX9_laysTrees_50 : decode cX9_laysTrees 50 = .ok (.iconst 0, 1) := by decide +kernel
theorem dX9_laysTrees_51 : decode cX9_laysTrees 51 = .ok (.invokevirtual 96, 3) := by decide +kernel
theorem dX9_laysTrees_54 : decode cX9_laysTrees 54 = .ok (.istore_n 2, 1) := by decide +kernel
theorem dX9_laysTrees_55 : decode cX9_laysTrees 55 = .ok (.aload_n 0, 1) := by decide +kernel
theorem dX9_laysTrees_56 : decode cX9_laysTrees 56 = .ok (.iload_n 1, 1) := by decide +kernel
theorem dX9_laysTrees_57 : decode cX9_laysTrees 57 = .ok (.iconst 1, 1) := by decide +kernel
theorem dX9_laysTrees_58 : decode cX9_laysTrees 58 = .ok (.invokevirtual 96, 3) := by decide +kernel
theorem dX9_laysTrees_61 : decode cX9_laysTrees 61 = .ok (.istore_n 3, 1) := by decide +kernel
theorem dX9_laysTrees_62 : decode cX9_laysTrees 62 = .ok (.aload_n 0, 1) := by decide +kernel
theorem dX9_laysTrees_63 : decode cX9_laysTrees 63 = .ok (.getfield 25, 3) := by decide +kernel
theorem dX9_laysTrees_66 : decode cX9_laysTrees 66 = .ok (.bipush 18, 2) := by decide +kernel
theorem dX9_laysTrees_68 : decode cX9_laysTrees 68 = .ok (.iload_n 2, 1) := by decide +kernel
theorem dX9_laysTrees_69 : decode cX9_laysTrees 69 = .ok (.imul, 1) := by decide +kernel
theorem dX9_laysTrees_70 : decode cX9_laysTrees 70 = .ok (.iload_n 2, 1) := by decide +kernel
theorem dX9_laysTrees_71 : decode cX9_laysTrees 71 = .ok (.iadd, 1) := by decide +kernel
theorem dX9_laysTrees_72 : decode cX9_laysTrees 72 = .ok (.dup2, 1) := by decide +kernel
theorem dX9_laysTrees_73 : decode cX9_laysTrees 73 = .ok (.laload, 1) := by decide +kernel
theorem dX9_laysTrees_74 : decode cX9_laysTrees 74 = .ok (.lconst 1, 1) := by decide +kernel
theorem dX9_laysTrees_75 : decode cX9_laysTrees 75 = .ok (.ladd, 1) := by decide +kernel
theorem dX9_laysTrees_76 : decode cX9_laysTrees 76 = .ok (.lastore, 1) := by decide +kernel
theorem dX9_laysTrees_77 : decode cX9_laysTrees 77 = .ok (.aload_n 0, 1) := by decide +kernel
theorem dX9_laysTrees_78 : decode cX9_laysTrees 78 = .ok (.getfield 25, 3) := by decide +kernel
theorem dX9_laysTrees_81 : decode cX9_laysTrees 81 = .ok (.bipush 18, 2) := by decide +kernel
theorem dX9_laysTrees_83 : decode cX9_laysTrees 83 = .ok (.iload_n 2, 1) := by decide +kernel
theorem dX9_laysTrees_84 : decode cX9_laysTrees 84 = .ok (.imul, 1) := by decide +kernel
theorem dX9_laysTrees_85 : decode cX9_laysTrees 85 = .ok (.iload_n 3, 1) := by decide +kernel
theorem dX9_laysTrees_86 : decode cX9_laysTrees 86 = .ok (.iadd, 1) := by decide +kernel
theorem dX9_laysTrees_87 : decode cX9_laysTrees 87 = .ok (.dup2, 1) := by decide +kernel
theorem dX9_laysTrees_88 : decode cX9_laysTrees 88 = .ok (.laload, 1) := by decide +kernel
theorem dX9_laysTrees_89 : decode cX9_laysTrees 89 = .ok (.lconst 1, 1) := by decide +kernel
theorem dX9_laysTrees_90 : decode cX9_laysTrees 90 = .ok (.lsub, 1) := by decide +kernel
theorem dX9_laysTrees_91 : decode cX9_laysTrees 91 = .ok (.lastore, 1) := by decide +kernel
theorem dX9_laysTrees_92 : decode cX9_laysTrees 92 = .ok (.iinc 1 1, 3) := by decide +kernel
theorem dX9_laysTrees_95 : decode cX9_laysTrees 95 = .ok (.goto (-59), 3) := by decide +kernel
theorem dX9_laysTrees_98 : decode cX9_laysTrees 98 = .ok (.return_, 1) := by decide +kernel
theorem dX9_clears_0 : decode cX9_clears 0 = .ok (.iconst 0, 1) := by decide +kernel
theorem dX9_clears_1 : decode cX9_clears 1 = .ok (.istore_n 2, 1) := by decide +kernel
theorem dX9_clears_2 : decode cX9_clears 2 = .ok (.iload_n 2, 1) := by decide +kernel
theorem dX9_clears_3 : decode cX9_clears 3 = .ok (.bipush 19, 2) := by decide +kernel
theorem dX9_clears_5 : decode cX9_clears 5 = .ok (.if_icmp .ge 13, 3) := by decide +kernel
theorem dX9_clears_8 : decode cX9_clears 8 = .ok (.aload_n 1, 1) := by decide +kernel
theorem dX9_clears_9 : decode cX9_clears 9 = .ok (.iload_n 2, 1) := by decide +kernel
theorem dX9_clears_10 : decode cX9_clears 10 = .ok (.lconst 0, 1) := by decide +kernel
theorem dX9_clears_11 : decode cX9_clears 11 = .ok (.lastore, 1) := by decide +kernel
theorem dX9_clears_12 : decode cX9_clears 12 = .ok (.iinc 2 1, 3) := by decide +kernel
theorem dX9_clears_15 : decode cX9_clears 15 = .ok (.goto (-13), 3) := by decide +kernel
theorem dX9_clears_18 : decode cX9_clears 18 = .ok (.return_, 1) := by decide +kernel
theorem dX9_laysStep_0 : decode cX9_laysStep 0 = .ok (.aload_n 0, 1) := by decide +kernel
theorem dX9_laysStep_1 : decode cX9_laysStep 1 = .ok (.getfield 41, 3) := by decide +kernel
theorem dX9_laysStep_4 : decode cX9_laysStep 4 = .ok (.iconst 0, 1) := by decide +kernel
theorem dX9_laysStep_5 : decode cX9_laysStep 5 = .ok (.lconst 1, 1) := by decide +kernel
theorem dX9_laysStep_6 : decode cX9_laysStep 6 = .ok (.lastore, 1) := by decide +kernel
theorem dX9_laysStep_7 : decode cX9_laysStep 7 = .ok (.aload_n 0, 1) := by decide +kernel
theorem dX9_laysStep_8 : decode cX9_laysStep 8 = .ok (.getfield 41, 3) := by decide +kernel
theorem dX9_laysStep_11 : decode cX9_laysStep 11 = .ok (.iconst 1, 1) := by decide +kernel
theorem dX9_laysStep_12 : decode cX9_laysStep 12 = .ok (.aload_n 0, 1) := by decide +kernel
theorem dX9_laysStep_13 : decode cX9_laysStep 13 = .ok (.getfield 25, 3) := by decide +kernel
theorem dX9_laysStep_16 : decode cX9_laysStep 16 = .ok (.bipush 18, 2) := by decide +kernel
theorem dX9_laysStep_18 : decode cX9_laysStep 18 = .ok (.iload_n 1, 1) := by decide +kernel
theorem dX9_laysStep_19 : decode cX9_laysStep 19 = .ok (.imul, 1) := by decide +kernel
theorem dX9_laysStep_20 : decode cX9_laysStep 20 = .ok (.iload_n 1, 1) := by decide +kernel
theorem dX9_laysStep_21 : decode cX9_laysStep 21 = .ok (.iadd, 1) := by decide +kernel
theorem dX9_laysStep_22 : decode cX9_laysStep 22 = .ok (.laload, 1) := by decide +kernel
theorem dX9_laysStep_23 : decode cX9_laysStep 23 = .ok (.lneg, 1) := by decide +kernel
theorem dX9_laysStep_24 : decode cX9_laysStep 24 = .ok (.lastore, 1) := by decide +kernel
theorem dX9_laysStep_25 : decode cX9_laysStep 25 = .ok (.iconst 0, 1) := by decide +kernel
theorem dX9_laysStep_26 : decode cX9_laysStep 26 = .ok (.istore_n 2, 1) := by decide +kernel
theorem dX9_laysStep_27 : decode cX9_laysStep 27 = .ok (.iload_n 2, 1) := by decide +kernel
theorem dX9_laysStep_28 : decode cX9_laysStep 28 = .ok (.iload_n 1, 1) := by decide +kernel
theorem dX9_laysStep_29 : decode cX9_laysStep 29 = .ok (.if_icmp .ge 26, 3) := by decide +kernel
theorem dX9_laysStep_32 : decode cX9_laysStep 32 = .ok (.aload_n 0, 1) := by decide +kernel
theorem dX9_laysStep_33 : decode cX9_laysStep 33 = .ok (.getfield 44, 3) := by decide +kernel
theorem dX9_laysStep_36 : decode cX9_laysStep 36 = .ok (.iload_n 2, 1) := by decide +kernel
theorem dX9_laysStep_37 : decode cX9_laysStep 37 = .ok (.aload_n 0, 1) := by decide +kernel
theorem dX9_laysStep_38 : decode cX9_laysStep 38 = .ok (.getfield 25, 3) := by decide +kernel
theorem dX9_laysStep_41 : decode cX9_laysStep 41 = .ok (.bipush 18, 2) := by decide +kernel
theorem dX9_laysStep_43 : decode cX9_laysStep 43 = .ok (.iload_n 2, 1) := by decide +kernel
theorem dX9_laysStep_44 : decode cX9_laysStep 44 = .ok (.imul, 1) := by decide +kernel
theorem dX9_laysStep_45 : decode cX9_laysStep 45 = .ok (.iload_n 1, 1) := by decide +kernel
theorem dX9_laysStep_46 : decode cX9_laysStep 46 = .ok (.iadd, 1) := by decide +kernel
theorem dX9_laysStep_47 : decode cX9_laysStep 47 = .ok (.laload, 1) := by decide +kernel
theorem dX9_laysStep_48 : decode cX9_laysStep 48 = .ok (.lastore, 1) := by decide +kernel
theorem dX9_laysStep_49 : decode cX9_laysStep 49 = .ok (.iinc 2 1, 3) := by decide +kernel
theorem dX9_laysStep_52 : decode cX9_laysStep 52 = .ok (.goto (-25), 3) := by decide +kernel
theorem dX9_laysStep_55 : decode cX9_laysStep 55 = .ok (.iconst 0, 1) := by decide +kernel
theorem dX9_laysStep_56 : decode cX9_laysStep 56 = .ok (.istore_n 2, 1) := by decide +kernel
theorem dX9_laysStep_57 : decode cX9_laysStep 57 = .ok (.iload_n 2, 1) := by decide +kernel
theorem dX9_laysStep_58 : decode cX9_laysStep 58 = .ok (.iload_n 1, 1) := by decide +kernel
theorem dX9_laysStep_59 : decode cX9_laysStep 59 = .ok (.if_icmp .ge 157, 3) := by decide +kernel
theorem dX9_laysStep_62 : decode cX9_laysStep 62 = .ok (.lconst 0, 1) := by decide +kernel
theorem dX9_laysStep_63 : decode cX9_laysStep 63 = .ok (.lstore_n 3, 1) := by decide +kernel
theorem dX9_laysStep_64 : decode cX9_laysStep 64 = .ok (.iconst 0, 1) := by decide +kernel
theorem dX9_laysStep_65 : decode cX9_laysStep 65 = .ok (.istore 5, 2) := by decide +kernel
theorem dX9_laysStep_67 : decode cX9_laysStep 67 = .ok (.iload 5, 2) := by decide +kernel
theorem dX9_laysStep_69 : decode cX9_laysStep 69 = .ok (.iload_n 1, 1) := by decide +kernel
theorem dX9_laysStep_70 : decode cX9_laysStep 70 = .ok (.if_icmp .ge 32, 3) := by decide +kernel
theorem dX9_laysStep_73 : decode cX9_laysStep 73 = .ok (.lload_n 3, 1) := by decide +kernel
theorem dX9_laysStep_74 : decode cX9_laysStep 74 = .ok (.aload_n 0, 1) := by decide +kernel
theorem dX9_laysStep_75 : decode cX9_laysStep 75 = .ok (.getfield 25, 3) := by decide +kernel
theorem dX9_laysStep_78 : decode cX9_laysStep 78 = .ok (.bipush 18, 2) := by decide +kernel
theorem dX9_laysStep_80 : decode cX9_laysStep 80 = .ok (.iload_n 1, 1) := by decide +kernel
theorem dX9_laysStep_81 : decode cX9_laysStep 81 = .ok (.imul, 1) := by decide +kernel
theorem dX9_laysStep_82 : decode cX9_laysStep 82 = .ok (.iload 5, 2) := by decide +kernel
theorem dX9_laysStep_84 : decode cX9_laysStep 84 = .ok (.iadd, 1) := by decide +kernel
theorem dX9_laysStep_85 : decode cX9_laysStep 85 = .ok (.laload, 1) := by decide +kernel
theorem dX9_laysStep_86 : decode cX9_laysStep 86 = .ok (.aload_n 0, 1) := by decide +kernel
theorem dX9_laysStep_87 : decode cX9_laysStep 87 = .ok (.getfield 44, 3) := by decide +kernel
theorem dX9_laysStep_90 : decode cX9_laysStep 90 = .ok (.iload 5, 2) := by decide +kernel
theorem dX9_laysStep_92 : decode cX9_laysStep 92 = .ok (.laload, 1) := by decide +kernel
theorem dX9_laysStep_93 : decode cX9_laysStep 93 = .ok (.lmul, 1) := by decide +kernel
theorem dX9_laysStep_94 : decode cX9_laysStep 94 = .ok (.ladd, 1) := by decide +kernel
theorem dX9_laysStep_95 : decode cX9_laysStep 95 = .ok (.lstore_n 3, 1) := by decide +kernel
theorem dX9_laysStep_96 : decode cX9_laysStep 96 = .ok (.iinc 5 1, 3) := by decide +kernel
theorem dX9_laysStep_99 : decode cX9_laysStep 99 = .ok (.goto (-32), 3) := by decide +kernel
theorem dX9_laysStep_102 : decode cX9_laysStep 102 = .ok (.aload_n 0, 1) := by decide +kernel
theorem dX9_laysStep_103 : decode cX9_laysStep 103 = .ok (.getfield 41, 3) := by decide +kernel
theorem dX9_laysStep_106 : decode cX9_laysStep 106 = .ok (.iload_n 2, 1) := by decide +kernel
theorem dX9_laysStep_107 : decode cX9_laysStep 107 = .ok (.iconst 2, 1) := by decide +kernel
theorem dX9_laysStep_108 : decode cX9_laysStep 108 = .ok (.iadd, 1) := by decide +kernel
theorem dX9_laysStep_109 : decode cX9_laysStep 109 = .ok (.lload_n 3, 1) := by decide +kernel
theorem dX9_laysStep_110 : decode cX9_laysStep 110 = .ok (.lneg, 1) := by decide +kernel
theorem dX9_laysStep_111 : decode cX9_laysStep 111 = .ok (.lastore, 1) := by decide +kernel
theorem dX9_laysStep_112 : decode cX9_laysStep 112 = .ok (.iconst 0, 1) := by decide +kernel
theorem dX9_laysStep_113 : decode cX9_laysStep 113 = .ok (.istore 5, 2) := by decide +kernel
theorem dX9_laysStep_115 : decode cX9_laysStep 115 = .ok (.iload 5, 2) := by decide +kernel
theorem dX9_laysStep_117 : decode cX9_laysStep 117 = .ok (.iload_n 1, 1) := by decide +kernel
theorem dX9_laysStep_118 : decode cX9_laysStep 118 = .ok (.if_icmp .ge 63, 3) := by decide +kernel
theorem dX9_laysStep_121 : decode cX9_laysStep 121 = .ok (.aload_n 0, 1) := by decide +kernel
theorem dX9_laysStep_122 : decode cX9_laysStep 122 = .ok (.getfield 47, 3) := by decide +kernel
theorem dX9_laysStep_125 : decode cX9_laysStep 125 = .ok (.iload 5, 2) := by decide +kernel
theorem dX9_laysStep_127 : decode cX9_laysStep 127 = .ok (.lconst 0, 1) := by decide +kernel
theorem dX9_laysStep_128 : decode cX9_laysStep 128 = .ok (.lastore, 1) := by decide +kernel
theorem dX9_laysStep_129 : decode cX9_laysStep 129 = .ok (.iconst 0, 1) := by decide +kernel
theorem dX9_laysStep_130 : decode cX9_laysStep 130 = .ok (.istore 6, 2) := by decide +kernel
theorem dX9_laysStep_132 : decode cX9_laysStep 132 = .ok (.iload 6, 2) := by decide +kernel
theorem dX9_laysStep_134 : decode cX9_laysStep 134 = .ok (.iload_n 1, 1) := by decide +kernel
theorem dX9_laysStep_135 : decode cX9_laysStep 135 = .ok (.if_icmp .ge 40, 3) := by decide +kernel
theorem dX9_laysStep_138 : decode cX9_laysStep 138 = .ok (.aload_n 0, 1) := by decide +kernel
theorem dX9_laysStep_139 : decode cX9_laysStep 139 = .ok (.getfield 47, 3) := by decide +kernel
theorem dX9_laysStep_142 : decode cX9_laysStep 142 = .ok (.iload 5, 2) := by decide +kernel
theorem dX9_laysStep_144 : decode cX9_laysStep 144 = .ok (.dup2, 1) := by decide +kernel
theorem dX9_laysStep_145 : decode cX9_laysStep 145 = .ok (.laload, 1) := by decide +kernel
theorem dX9_laysStep_146 : decode cX9_laysStep 146 = .ok (.aload_n 0, 1) := by decide +kernel
theorem dX9_laysStep_147 : decode cX9_laysStep 147 = .ok (.getfield 25, 3) := by decide +kernel
theorem dX9_laysStep_150 : decode cX9_laysStep 150 = .ok (.bipush 18, 2) := by decide +kernel
theorem dX9_laysStep_152 : decode cX9_laysStep 152 = .ok (.iload 5, 2) := by decide +kernel
theorem dX9_laysStep_154 : decode cX9_laysStep 154 = .ok (.imul, 1) := by decide +kernel
theorem dX9_laysStep_155 : decode cX9_laysStep 155 = .ok (.iload 6, 2) := by decide +kernel
theorem dX9_laysStep_157 : decode cX9_laysStep 157 = .ok (.iadd, 1) := by decide +kernel
theorem dX9_laysStep_158 : decode cX9_laysStep 158 = .ok (.laload, 1) := by decide +kernel
theorem dX9_laysStep_159 : decode cX9_laysStep 159 = .ok (.aload_n 0, 1) := by decide +kernel
theorem dX9_laysStep_160 : decode cX9_laysStep 160 = .ok (.getfield 44, 3) := by decide +kernel
theorem dX9_laysStep_163 : decode cX9_laysStep 163 = .ok (.iload 6, 2) := by decide +kernel
theorem dX9_laysStep_165 : decode cX9_laysStep 165 = .ok (.laload, 1) := by decide +kernel
theorem dX9_laysStep_166 : decode cX9_laysStep 166 = .ok (.lmul, 1) := by decide +kernel
theorem dX9_laysStep_167 : decode cX9_laysStep 167 = .ok (.ladd, 1) := by decide +kernel
theorem dX9_laysStep_168 : decode cX9_laysStep 168 = .ok (.lastore, 1) := by decide +kernel
theorem dX9_laysStep_169 : decode cX9_laysStep 169 = .ok (.iinc 6 1, 3) := by decide +kernel
theorem dX9_laysStep_172 : decode cX9_laysStep 172 = .ok (.goto (-40), 3) := by decide +kernel
theorem dX9_laysStep_175 : decode cX9_laysStep 175 = .ok (.iinc 5 1, 3) := by decide +kernel
theorem dX9_laysStep_178 : decode cX9_laysStep 178 = .ok (.goto (-63), 3) := by decide +kernel
theorem dX9_laysStep_181 : decode cX9_laysStep 181 = .ok (.iconst 0, 1) := by decide +kernel
theorem dX9_laysStep_182 : decode cX9_laysStep 182 = .ok (.istore 5, 2) := by decide +kernel
theorem dX9_laysStep_184 : decode cX9_laysStep 184 = .ok (.iload 5, 2) := by decide +kernel
theorem dX9_laysStep_186 : decode cX9_laysStep 186 = .ok (.iload_n 1, 1) := by decide +kernel
theorem dX9_laysStep_187 : decode cX9_laysStep 187 = .ok (.if_icmp .ge 23, 3) := by decide +kernel
theorem dX9_laysStep_190 : decode cX9_laysStep 190 = .ok (.aload_n 0, 1) := by decide +kernel
theorem dX9_laysStep_191 : decode cX9_laysStep 191 = .ok (.getfield 44, 3) := by decide +kernel
theorem dX9_laysStep_194 : decode cX9_laysStep 194 = .ok (.iload 5, 2) := by decide +kernel
theorem dX9_laysStep_196 : decode cX9_laysStep 196 = .ok (.aload_n 0, 1) := by decide +kernel
theorem dX9_laysStep_197 : decode cX9_laysStep 197 = .ok (.getfield 47, 3) := by decide +kernel
theorem dX9_laysStep_200 : decode cX9_laysStep 200 = .ok (.iload 5, 2) := by decide +kernel
theorem dX9_laysStep_202 : decode cX9_laysStep 202 = .ok (.laload, 1) := by decide +kernel
theorem dX9_laysStep_203 : decode cX9_laysStep 203 = .ok (.lastore, 1) := by decide +kernel
theorem dX9_laysStep_204 : decode cX9_laysStep 204 = .ok (.iinc 5 1, 3) := by decide +kernel
theorem dX9_laysStep_207 : decode cX9_laysStep 207 = .ok (.goto (-23), 3) := by decide +kernel
theorem dX9_laysStep_210 : decode cX9_laysStep 210 = .ok (.iinc 2 1, 3) := by decide +kernel
theorem dX9_laysStep_213 : decode cX9_laysStep 213 = .ok (.goto (-156), 3) := by decide +kernel
theorem dX9_laysStep_216 : decode cX9_laysStep 216 = .ok (.return_, 1) := by decide +kernel
theorem dX9_laysPoly_0 : decode cX9_laysPoly 0 = .ok (.aload_n 0, 1) := by decide +kernel
theorem dX9_laysPoly_1 : decode cX9_laysPoly 1 = .ok (.aload_n 0, 1) := by decide +kernel
theorem dX9_laysPoly_2 : decode cX9_laysPoly 2 = .ok (.getfield 35, 3) := by decide +kernel
theorem dX9_laysPoly_5 : decode cX9_laysPoly 5 = .ok (.invokevirtual 120, 3) := by decide +kernel
theorem dX9_laysPoly_8 : decode cX9_laysPoly 8 = .ok (.aload_n 0, 1) := by decide +kernel
theorem dX9_laysPoly_9 : decode cX9_laysPoly 9 = .ok (.getfield 35, 3) := by decide +kernel
theorem dX9_laysPoly_12 : decode cX9_laysPoly 12 = .ok (.iconst 0, 1) := by decide +kernel
theorem dX9_laysPoly_13 : decode cX9_laysPoly 13 = .ok (.lconst 1, 1) := by decide +kernel
theorem dX9_laysPoly_14 : decode cX9_laysPoly 14 = .ok (.lastore, 1) := by decide +kernel
theorem dX9_laysPoly_15 : decode cX9_laysPoly 15 = .ok (.iconst 0, 1) := by decide +kernel
theorem dX9_laysPoly_16 : decode cX9_laysPoly 16 = .ok (.istore_n 1, 1) := by decide +kernel
theorem dX9_laysPoly_17 : decode cX9_laysPoly 17 = .ok (.iload_n 1, 1) := by decide +kernel
theorem dX9_laysPoly_18 : decode cX9_laysPoly 18 = .ok (.aload_n 0, 1) := by decide +kernel
theorem dX9_laysPoly_19 : decode cX9_laysPoly 19 = .ok (.getfield 117, 3) := by decide +kernel
theorem dX9_laysPoly_22 : decode cX9_laysPoly 22 = .ok (.if_icmp .ge 104, 3) := by decide +kernel
theorem dX9_laysPoly_25 : decode cX9_laysPoly 25 = .ok (.aload_n 0, 1) := by decide +kernel
theorem dX9_laysPoly_26 : decode cX9_laysPoly 26 = .ok (.iload_n 1, 1) := by decide +kernel
theorem dX9_laysPoly_27 : decode cX9_laysPoly 27 = .ok (.invokevirtual 124, 3) := by decide +kernel
theorem dX9_laysPoly_30 : decode cX9_laysPoly 30 = .ok (.iconst 0, 1) := by decide +kernel
theorem dX9_laysPoly_31 : decode cX9_laysPoly 31 = .ok (.istore_n 2, 1) := by decide +kernel
theorem dX9_laysPoly_32 : decode cX9_laysPoly 32 = .ok (.iload_n 2, 1) := by decide +kernel
theorem dX9_laysPoly_33 : decode cX9_laysPoly 33 = .ok (.bipush 19, 2) := by decide +kernel
theorem dX9_laysPoly_35 : decode cX9_laysPoly 35 = .ok (.if_icmp .ge 28, 3) := by decide +kernel
theorem dX9_laysPoly_38 : decode cX9_laysPoly 38 = .ok (.aload_n 0, 1) := by decide +kernel
theorem dX9_laysPoly_39 : decode cX9_laysPoly 39 = .ok (.getfield 38, 3) := by decide +kernel
theorem dX9_laysPoly_42 : decode cX9_laysPoly 42 = .ok (.iload_n 2, 1) := by decide +kernel
theorem dX9_laysPoly_43 : decode cX9_laysPoly 43 = .ok (.aload_n 0, 1) := by decide +kernel
theorem dX9_laysPoly_44 : decode cX9_laysPoly 44 = .ok (.getfield 35, 3) := by decide +kernel
theorem dX9_laysPoly_47 : decode cX9_laysPoly 47 = .ok (.iload_n 2, 1) := by decide +kernel
theorem dX9_laysPoly_48 : decode cX9_laysPoly 48 = .ok (.laload, 1) := by decide +kernel
theorem dX9_laysPoly_49 : decode cX9_laysPoly 49 = .ok (.lastore, 1) := by decide +kernel
theorem dX9_laysPoly_50 : decode cX9_laysPoly 50 = .ok (.aload_n 0, 1) := by decide +kernel
theorem dX9_laysPoly_51 : decode cX9_laysPoly 51 = .ok (.getfield 35, 3) := by decide +kernel
theorem dX9_laysPoly_54 : decode cX9_laysPoly 54 = .ok (.iload_n 2, 1) := by decide +kernel
theorem dX9_laysPoly_55 : decode cX9_laysPoly 55 = .ok (.lconst 0, 1) := by decide +kernel
theorem dX9_laysPoly_56 : decode cX9_laysPoly 56 = .ok (.lastore, 1) := by decide +kernel
theorem dX9_laysPoly_57 : decode cX9_laysPoly 57 = .ok (.iinc 2 1, 3) := by decide +kernel
theorem dX9_laysPoly_60 : decode cX9_laysPoly 60 = .ok (.goto (-28), 3) := by decide +kernel
theorem dX9_laysPoly_63 : decode cX9_laysPoly 63 = .ok (.iconst 0, 1) := by decide +kernel
theorem dX9_laysPoly_64 : decode cX9_laysPoly 64 = .ok (.istore_n 2, 1) := by decide +kernel
theorem dX9_laysPoly_65 : decode cX9_laysPoly 65 = .ok (.iload_n 2, 1) := by decide +kernel
theorem dX9_laysPoly_66 : decode cX9_laysPoly 66 = .ok (.iload_n 1, 1) := by decide +kernel
theorem dX9_laysPoly_67 : decode cX9_laysPoly 67 = .ok (.iconst 1, 1) := by decide +kernel
theorem dX9_laysPoly_68 : decode cX9_laysPoly 68 = .ok (.iadd, 1) := by decide +kernel
theorem dX9_laysPoly_69 : decode cX9_laysPoly 69 = .ok (.if_icmp .gt 51, 3) := by decide +kernel
theorem dX9_laysPoly_72 : decode cX9_laysPoly 72 = .ok (.iconst 0, 1) := by decide +kernel
theorem dX9_laysPoly_73 : decode cX9_laysPoly 73 = .ok (.istore_n 3, 1) := by decide +kernel
theorem dX9_laysPoly_74 : decode cX9_laysPoly 74 = .ok (.iload_n 3, 1) := by decide +kernel
theorem dX9_laysPoly_75 : decode cX9_laysPoly 75 = .ok (.iload_n 1, 1) := by decide +kernel
theorem dX9_laysPoly_76 : decode cX9_laysPoly 76 = .ok (.if_icmp .gt 38, 3) := by decide +kernel
theorem dX9_laysPoly_79 : decode cX9_laysPoly 79 = .ok (.iload_n 3, 1) := by decide +kernel
theorem dX9_laysPoly_80 : decode cX9_laysPoly 80 = .ok (.iload_n 2, 1) := by decide +kernel
theorem dX9_laysPoly_81 : decode cX9_laysPoly 81 = .ok (.if_icmp .gt 33, 3) := by decide +kernel
theorem dX9_laysPoly_84 : decode cX9_laysPoly 84 = .ok (.aload_n 0, 1) := by decide +kernel
theorem dX9_laysPoly_85 : decode cX9_laysPoly 85 = .ok (.getfield 35, 3) := by decide +kernel
theorem dX9_laysPoly_88 : decode cX9_laysPoly 88 = .ok (.iload_n 2, 1) := by decide +kernel
theorem dX9_laysPoly_89 : decode cX9_laysPoly 89 = .ok (.dup2, 1) := by decide +kernel
theorem dX9_laysPoly_90 : decode cX9_laysPoly 90 = .ok (.laload, 1) := by decide +kernel
theorem dX9_laysPoly_91 : decode cX9_laysPoly 91 = .ok (.aload_n 0, 1) := by decide +kernel
theorem dX9_laysPoly_92 : decode cX9_laysPoly 92 = .ok (.getfield 41, 3) := by decide +kernel
theorem dX9_laysPoly_95 : decode cX9_laysPoly 95 = .ok (.iload_n 2, 1) := by decide +kernel
theorem dX9_laysPoly_96 : decode cX9_laysPoly 96 = .ok (.iload_n 3, 1) := by decide +kernel
theorem dX9_laysPoly_97 : decode cX9_laysPoly 97 = .ok (.isub, 1) := by decide +kernel
theorem dX9_laysPoly_98 : decode cX9_laysPoly 98 = .ok (.laload, 1) := by decide +kernel
theorem dX9_laysPoly_99 : decode cX9_laysPoly 99 = .ok (.aload_n 0, 1) := by decide +kernel
theorem dX9_laysPoly_100 : decode cX9_laysPoly 100 = .ok (.getfield 38, 3) := by decide +kernel
theorem dX9_laysPoly_103 : decode cX9_laysPoly 103 = .ok (.iload_n 3, 1) := by decide +kernel
theorem dX9_laysPoly_104 : decode cX9_laysPoly 104 = .ok (.laload, 1) := by decide +kernel
theorem dX9_laysPoly_105 : decode cX9_laysPoly 105 = .ok (.lmul, 1) := by decide +kernel
theorem dX9_laysPoly_106 : decode cX9_laysPoly 106 = .ok (.ladd, 1) := by decide +kernel
theorem dX9_laysPoly_107 : decode cX9_laysPoly 107 = .ok (.lastore, 1) := by decide +kernel
theorem dX9_laysPoly_108 : decode cX9_laysPoly 108 = .ok (.iinc 3 1, 3) := by decide +kernel
theorem dX9_laysPoly_111 : decode cX9_laysPoly 111 = .ok (.goto (-37), 3) := by decide +kernel
theorem dX9_laysPoly_114 : decode cX9_laysPoly 114 = .ok (.iinc 2 1, 3) := by decide +kernel
theorem dX9_laysPoly_117 : decode cX9_laysPoly 117 = .ok (.goto (-52), 3) := by decide +kernel
theorem dX9_laysPoly_120 : decode cX9_laysPoly 120 = .ok (.iinc 1 1, 3) := by decide +kernel
theorem dX9_laysPoly_123 : decode cX9_laysPoly 123 = .ok (.goto (-106), 3) := by decide +kernel
theorem dX9_laysPoly_126 : decode cX9_laysPoly 126 = .ok (.return_, 1) := by decide +kernel
theorem dX9_laysEdgePoly_0 : decode cX9_laysEdgePoly 0 = .ok (.aload_n 0, 1) := by decide +kernel
theorem dX9_laysEdgePoly_1 : decode cX9_laysEdgePoly 1 = .ok (.iconst 0, 1) := by decide +kernel
theorem dX9_laysEdgePoly_2 : decode cX9_laysEdgePoly 2 = .ok (.invokevirtual 128, 3) := by decide +kernel
theorem dX9_laysEdgePoly_5 : decode cX9_laysEdgePoly 5 = .ok (.aload_n 0, 1) := by decide +kernel
theorem dX9_laysEdgePoly_6 : decode cX9_laysEdgePoly 6 = .ok (.invokevirtual 132, 3) := by decide +kernel
theorem dX9_laysEdgePoly_9 : decode cX9_laysEdgePoly 9 = .ok (.return_, 1) := by decide +kernel
theorem dX9_laysBassPoly_0 : decode cX9_laysBassPoly 0 = .ok (.aload_n 0, 1) := by decide +kernel
theorem dX9_laysBassPoly_1 : decode cX9_laysBassPoly 1 = .ok (.invokevirtual 135, 3) := by decide +kernel
theorem dX9_laysBassPoly_4 : decode cX9_laysBassPoly 4 = .ok (.aload_n 0, 1) := by decide +kernel
theorem dX9_laysBassPoly_5 : decode cX9_laysBassPoly 5 = .ok (.invokevirtual 132, 3) := by decide +kernel
theorem dX9_laysBassPoly_8 : decode cX9_laysBassPoly 8 = .ok (.aload_n 0, 1) := by decide +kernel
theorem dX9_laysBassPoly_9 : decode cX9_laysBassPoly 9 = .ok (.getfield 7, 3) := by decide +kernel
theorem dX9_laysBassPoly_12 : decode cX9_laysBassPoly 12 = .ok (.iconst 1, 1) := by decide +kernel
theorem dX9_laysBassPoly_13 : decode cX9_laysBassPoly 13 = .ok (.iaload, 1) := by decide +kernel
theorem dX9_laysBassPoly_14 : decode cX9_laysBassPoly 14 = .ok (.aload_n 0, 1) := by decide +kernel
theorem dX9_laysBassPoly_15 : decode cX9_laysBassPoly 15 = .ok (.getfield 7, 3) := by decide +kernel
theorem dX9_laysBassPoly_18 : decode cX9_laysBassPoly 18 = .ok (.iconst 0, 1) := by decide +kernel
theorem dX9_laysBassPoly_19 : decode cX9_laysBassPoly 19 = .ok (.iaload, 1) := by decide +kernel
theorem dX9_laysBassPoly_20 : decode cX9_laysBassPoly 20 = .ok (.isub, 1) := by decide +kernel
theorem dX9_laysBassPoly_21 : decode cX9_laysBassPoly 21 = .ok (.istore_n 1, 1) := by decide +kernel
theorem dX9_laysBassPoly_22 : decode cX9_laysBassPoly 22 = .ok (.iconst 0, 1) := by decide +kernel
theorem dX9_laysBassPoly_23 : decode cX9_laysBassPoly 23 = .ok (.istore_n 2, 1) := by decide +kernel
theorem dX9_laysBassPoly_24 : decode cX9_laysBassPoly 24 = .ok (.iload_n 2, 1) := by decide +kernel
theorem dX9_laysBassPoly_25 : decode cX9_laysBassPoly 25 = .ok (.iload_n 1, 1) := by decide +kernel
theorem dX9_laysBassPoly_26 : decode cX9_laysBassPoly 26 = .ok (.if_icmp .ge 40, 3) := by decide +kernel
theorem dX9_laysBassPoly_29 : decode cX9_laysBassPoly 29 = .ok (.bipush 18, 2) := by decide +kernel
theorem dX9_laysBassPoly_31 : decode cX9_laysBassPoly 31 = .ok (.istore_n 3, 1) := by decide +kernel
theorem dX9_laysBassPoly_32 : decode cX9_laysBassPoly 32 = .ok (.iload_n 3, 1) := by decide +kernel
theorem dX9_laysBassPoly_33 : decode cX9_laysBassPoly 33 = .ok (.iconst 1, 1) := by decide +kernel
theorem dX9_laysBassPoly_34 : decode cX9_laysBassPoly 34 = .ok (.if_icmp .le 26, 3) := by decide +kernel
theorem dX9_laysBassPoly_37 : decode cX9_laysBassPoly 37 = .ok (.aload_n 0, 1) := by decide +kernel
theorem dX9_laysBassPoly_38 : decode cX9_laysBassPoly 38 = .ok (.getfield 35, 3) := by decide +kernel
theorem dX9_laysBassPoly_41 : decode cX9_laysBassPoly 41 = .ok (.iload_n 3, 1) := by decide +kernel
theorem dX9_laysBassPoly_42 : decode cX9_laysBassPoly 42 = .ok (.dup2, 1) := by decide +kernel
theorem dX9_laysBassPoly_43 : decode cX9_laysBassPoly 43 = .ok (.laload, 1) := by decide +kernel
theorem dX9_laysBassPoly_44 : decode cX9_laysBassPoly 44 = .ok (.aload_n 0, 1) := by decide +kernel
theorem dX9_laysBassPoly_45 : decode cX9_laysBassPoly 45 = .ok (.getfield 35, 3) := by decide +kernel
theorem dX9_laysBassPoly_48 : decode cX9_laysBassPoly 48 = .ok (.iload_n 3, 1) := by decide +kernel
theorem dX9_laysBassPoly_49 : decode cX9_laysBassPoly 49 = .ok (.iconst 2, 1) := by decide +kernel
theorem dX9_laysBassPoly_50 : decode cX9_laysBassPoly 50 = .ok (.isub, 1) := by decide +kernel
theorem dX9_laysBassPoly_51 : decode cX9_laysBassPoly 51 = .ok (.laload, 1) := by decide +kernel
theorem dX9_laysBassPoly_52 : decode cX9_laysBassPoly 52 = .ok (.lsub, 1) := by decide +kernel
theorem dX9_laysBassPoly_53 : decode cX9_laysBassPoly 53 = .ok (.lastore, 1) := by decide +kernel
theorem dX9_laysBassPoly_54 : decode cX9_laysBassPoly 54 = .ok (.iinc 3 (-1), 3) := by decide +kernel
theorem dX9_laysBassPoly_57 : decode cX9_laysBassPoly 57 = .ok (.goto (-25), 3) := by decide +kernel
theorem dX9_laysBassPoly_60 : decode cX9_laysBassPoly 60 = .ok (.iinc 2 1, 3) := by decide +kernel
theorem dX9_laysBassPoly_63 : decode cX9_laysBassPoly 63 = .ok (.goto (-39), 3) := by decide +kernel
theorem dX9_laysBassPoly_66 : decode cX9_laysBassPoly 66 = .ok (.iconst 0, 1) := by decide +kernel
theorem dX9_laysBassPoly_67 : decode cX9_laysBassPoly 67 = .ok (.istore_n 2, 1) := by decide +kernel
theorem dX9_laysBassPoly_68 : decode cX9_laysBassPoly 68 = .ok (.iload_n 2, 1) := by decide +kernel
theorem dX9_laysBassPoly_69 : decode cX9_laysBassPoly 69 = .ok (.iload_n 1, 1) := by decide +kernel
theorem dX9_laysBassPoly_70 : decode cX9_laysBassPoly 70 = .ok (.ineg, 1) := by decide +kernel
theorem dX9_laysBassPoly_71 : decode cX9_laysBassPoly 71 = .ok (.if_icmp .ge 40, 3) := by decide +kernel
theorem dX9_laysBassPoly_74 : decode cX9_laysBassPoly 74 = .ok (.iconst 2, 1) := by decide +kernel
theorem dX9_laysBassPoly_75 : decode cX9_laysBassPoly 75 = .ok (.istore_n 3, 1) := by decide +kernel
theorem dX9_laysBassPoly_76 : decode cX9_laysBassPoly 76 = .ok (.iload_n 3, 1) := by decide +kernel
theorem dX9_laysBassPoly_77 : decode cX9_laysBassPoly 77 = .ok (.bipush 19, 2) := by decide +kernel
theorem dX9_laysBassPoly_79 : decode cX9_laysBassPoly 79 = .ok (.if_icmp .ge 26, 3) := by decide +kernel
theorem dX9_laysBassPoly_82 : decode cX9_laysBassPoly 82 = .ok (.aload_n 0, 1) := by decide +kernel
theorem dX9_laysBassPoly_83 : decode cX9_laysBassPoly 83 = .ok (.getfield 35, 3) := by decide +kernel
theorem dX9_laysBassPoly_86 : decode cX9_laysBassPoly 86 = .ok (.iload_n 3, 1) := by decide +kernel
theorem dX9_laysBassPoly_87 : decode cX9_laysBassPoly 87 = .ok (.dup2, 1) := by decide +kernel
theorem dX9_laysBassPoly_88 : decode cX9_laysBassPoly 88 = .ok (.laload, 1) := by decide +kernel
theorem dX9_laysBassPoly_89 : decode cX9_laysBassPoly 89 = .ok (.aload_n 0, 1) := by decide +kernel
theorem dX9_laysBassPoly_90 : decode cX9_laysBassPoly 90 = .ok (.getfield 35, 3) := by decide +kernel
theorem dX9_laysBassPoly_93 : decode cX9_laysBassPoly 93 = .ok (.iload_n 3, 1) := by decide +kernel
theorem dX9_laysBassPoly_94 : decode cX9_laysBassPoly 94 = .ok (.iconst 2, 1) := by decide +kernel
theorem dX9_laysBassPoly_95 : decode cX9_laysBassPoly 95 = .ok (.isub, 1) := by decide +kernel
theorem dX9_laysBassPoly_96 : decode cX9_laysBassPoly 96 = .ok (.laload, 1) := by decide +kernel
theorem dX9_laysBassPoly_97 : decode cX9_laysBassPoly 97 = .ok (.ladd, 1) := by decide +kernel
theorem dX9_laysBassPoly_98 : decode cX9_laysBassPoly 98 = .ok (.lastore, 1) := by decide +kernel
theorem dX9_laysBassPoly_99 : decode cX9_laysBassPoly 99 = .ok (.iinc 3 1, 3) := by decide +kernel
theorem dX9_laysBassPoly_102 : decode cX9_laysBassPoly 102 = .ok (.goto (-26), 3) := by decide +kernel
theorem dX9_laysBassPoly_105 : decode cX9_laysBassPoly 105 = .ok (.iinc 2 1, 3) := by decide +kernel
theorem dX9_laysBassPoly_108 : decode cX9_laysBassPoly 108 = .ok (.goto (-40), 3) := by decide +kernel
theorem dX9_laysBassPoly_111 : decode cX9_laysBassPoly 111 = .ok (.return_, 1) := by decide +kernel
theorem dX9_goesOn_0 : decode cX9_goesOn 0 = .ok (.iconst 0, 1) := by decide +kernel
theorem dX9_goesOn_1 : decode cX9_goesOn 1 = .ok (.istore_n 1, 1) := by decide +kernel
theorem dX9_goesOn_2 : decode cX9_goesOn 2 = .ok (.iload_n 1, 1) := by decide +kernel
theorem dX9_goesOn_3 : decode cX9_goesOn 3 = .ok (.aload_n 0, 1) := by decide +kernel
theorem dX9_goesOn_4 : decode cX9_goesOn 4 = .ok (.getfield 117, 3) := by decide +kernel
theorem dX9_goesOn_7 : decode cX9_goesOn 7 = .ok (.if_icmp .ge 85, 3) := by decide +kernel
theorem dX9_goesOn_10 : decode cX9_goesOn 10 = .ok (.iconst 0, 1) := by decide +kernel
theorem dX9_goesOn_11 : decode cX9_goesOn 11 = .ok (.istore_n 2, 1) := by decide +kernel
theorem dX9_goesOn_12 : decode cX9_goesOn 12 = .ok (.iload_n 2, 1) := by decide +kernel
theorem dX9_goesOn_13 : decode cX9_goesOn 13 = .ok (.aload_n 0, 1) := by decide +kernel
theorem dX9_goesOn_14 : decode cX9_goesOn 14 = .ok (.getfield 117, 3) := by decide +kernel
theorem dX9_goesOn_17 : decode cX9_goesOn 17 = .ok (.if_icmp .ge 69, 3) := by decide +kernel
theorem dX9_goesOn_20 : decode cX9_goesOn 20 = .ok (.lconst 0, 1) := by decide +kernel
theorem dX9_goesOn_21 : decode cX9_goesOn 21 = .ok (.lstore_n 3, 1) := by decide +kernel
theorem dX9_goesOn_22 : decode cX9_goesOn 22 = .ok (.iconst 0, 1) := by decide +kernel
theorem dX9_goesOn_23 : decode cX9_goesOn 23 = .ok (.istore 5, 2) := by decide +kernel
theorem dX9_goesOn_25 : decode cX9_goesOn 25 = .ok (.iload 5, 2) := by decide +kernel
theorem dX9_goesOn_27 : decode cX9_goesOn 27 = .ok (.aload_n 0, 1) := by decide +kernel
theorem dX9_goesOn_28 : decode cX9_goesOn 28 = .ok (.getfield 117, 3) := by decide +kernel
theorem dX9_goesOn_31 : decode cX9_goesOn 31 = .ok (.if_icmp .ge 37, 3) := by decide +kernel
theorem dX9_goesOn_34 : decode cX9_goesOn 34 = .ok (.lload_n 3, 1) := by decide +kernel
theorem dX9_goesOn_35 : decode cX9_goesOn 35 = .ok (.aload_n 0, 1) := by decide +kernel
theorem dX9_goesOn_36 : decode cX9_goesOn 36 = .ok (.getfield 29, 3) := by decide +kernel
theorem dX9_goesOn_39 : decode cX9_goesOn 39 = .ok (.bipush 18, 2) := by decide +kernel
theorem dX9_goesOn_41 : decode cX9_goesOn 41 = .ok (.iload_n 1, 1) := by decide +kernel
theorem dX9_goesOn_42 : decode cX9_goesOn 42 = .ok (.imul, 1) := by decide +kernel
theorem dX9_goesOn_43 : decode cX9_goesOn 43 = .ok (.iload 5, 2) := by decide +kernel
theorem dX9_goesOn_45 : decode cX9_goesOn 45 = .ok (.iadd, 1) := by decide +kernel
theorem dX9_goesOn_46 : decode cX9_goesOn 46 = .ok (.laload, 1) := by decide +kernel
theorem dX9_goesOn_47 : decode cX9_goesOn 47 = .ok (.aload_n 0, 1) := by decide +kernel
theorem dX9_goesOn_48 : decode cX9_goesOn 48 = .ok (.getfield 25, 3) := by decide +kernel
theorem dX9_goesOn_51 : decode cX9_goesOn 51 = .ok (.bipush 18, 2) := by decide +kernel
theorem dX9_goesOn_53 : decode cX9_goesOn 53 = .ok (.iload 5, 2) := by decide +kernel
theorem dX9_goesOn_55 : decode cX9_goesOn 55 = .ok (.imul, 1) := by decide +kernel
theorem dX9_goesOn_56 : decode cX9_goesOn 56 = .ok (.iload_n 2, 1) := by decide +kernel
theorem dX9_goesOn_57 : decode cX9_goesOn 57 = .ok (.iadd, 1) := by decide +kernel
theorem dX9_goesOn_58 : decode cX9_goesOn 58 = .ok (.laload, 1) := by decide +kernel
theorem dX9_goesOn_59 : decode cX9_goesOn 59 = .ok (.lmul, 1) := by decide +kernel
theorem dX9_goesOn_60 : decode cX9_goesOn 60 = .ok (.ladd, 1) := by decide +kernel
theorem dX9_goesOn_61 : decode cX9_goesOn 61 = .ok (.lstore_n 3, 1) := by decide +kernel
theorem dX9_goesOn_62 : decode cX9_goesOn 62 = .ok (.iinc 5 1, 3) := by decide +kernel
theorem dX9_goesOn_65 : decode cX9_goesOn 65 = .ok (.goto (-40), 3) := by decide +kernel
theorem dX9_goesOn_68 : decode cX9_goesOn 68 = .ok (.aload_n 0, 1) := by decide +kernel
theorem dX9_goesOn_69 : decode cX9_goesOn 69 = .ok (.getfield 32, 3) := by decide +kernel
theorem dX9_goesOn_72 : decode cX9_goesOn 72 = .ok (.bipush 18, 2) := by decide +kernel
theorem dX9_goesOn_74 : decode cX9_goesOn 74 = .ok (.iload_n 1, 1) := by decide +kernel
theorem dX9_goesOn_75 : decode cX9_goesOn 75 = .ok (.imul, 1) := by decide +kernel
theorem dX9_goesOn_76 : decode cX9_goesOn 76 = .ok (.iload_n 2, 1) := by decide +kernel
theorem dX9_goesOn_77 : decode cX9_goesOn 77 = .ok (.iadd, 1) := by decide +kernel
theorem dX9_goesOn_78 : decode cX9_goesOn 78 = .ok (.lload_n 3, 1) := by decide +kernel
theorem dX9_goesOn_79 : decode cX9_goesOn 79 = .ok (.lastore, 1) := by decide +kernel
theorem dX9_goesOn_80 : decode cX9_goesOn 80 = .ok (.iinc 2 1, 3) := by decide +kernel
theorem dX9_goesOn_83 : decode cX9_goesOn 83 = .ok (.goto (-71), 3) := by decide +kernel
theorem dX9_goesOn_86 : decode cX9_goesOn 86 = .ok (.iinc 1 1, 3) := by decide +kernel
theorem dX9_goesOn_89 : decode cX9_goesOn 89 = .ok (.goto (-87), 3) := by decide +kernel
theorem dX9_goesOn_92 : decode cX9_goesOn 92 = .ok (.iconst 0, 1) := by decide +kernel
theorem dX9_goesOn_93 : decode cX9_goesOn 93 = .ok (.istore_n 1, 1) := by decide +kernel
theorem dX9_goesOn_94 : decode cX9_goesOn 94 = .ok (.iload_n 1, 1) := by decide +kernel
theorem dX9_goesOn_95 : decode cX9_goesOn 95 = .ok (.bipush 18, 2) := by decide +kernel
theorem dX9_goesOn_97 : decode cX9_goesOn 97 = .ok (.aload_n 0, 1) := by decide +kernel
theorem dX9_goesOn_98 : decode cX9_goesOn 98 = .ok (.getfield 117, 3) := by decide +kernel
theorem dX9_goesOn_101 : decode cX9_goesOn 101 = .ok (.imul, 1) := by decide +kernel
theorem dX9_goesOn_102 : decode cX9_goesOn 102 = .ok (.if_icmp .ge 21, 3) := by decide +kernel
theorem dX9_goesOn_105 : decode cX9_goesOn 105 = .ok (.aload_n 0, 1) := by decide +kernel
theorem dX9_goesOn_106 : decode cX9_goesOn 106 = .ok (.getfield 29, 3) := by decide +kernel
theorem dX9_goesOn_109 : decode cX9_goesOn 109 = .ok (.iload_n 1, 1) := by decide +kernel
theorem dX9_goesOn_110 : decode cX9_goesOn 110 = .ok (.aload_n 0, 1) := by decide +kernel
theorem dX9_goesOn_111 : decode cX9_goesOn 111 = .ok (.getfield 32, 3) := by decide +kernel
theorem dX9_goesOn_114 : decode cX9_goesOn 114 = .ok (.iload_n 1, 1) := by decide +kernel
theorem dX9_goesOn_115 : decode cX9_goesOn 115 = .ok (.laload, 1) := by decide +kernel
theorem dX9_goesOn_116 : decode cX9_goesOn 116 = .ok (.lastore, 1) := by decide +kernel
theorem dX9_goesOn_117 : decode cX9_goesOn 117 = .ok (.iinc 1 1, 3) := by decide +kernel
theorem dX9_goesOn_120 : decode cX9_goesOn 120 = .ok (.goto (-26), 3) := by decide +kernel
theorem dX9_goesOn_123 : decode cX9_goesOn 123 = .ok (.return_, 1) := by decide +kernel
theorem dX9_laysTraces_0 : decode cX9_laysTraces 0 = .ok (.aload_n 0, 1) := by decide +kernel
theorem dX9_laysTraces_1 : decode cX9_laysTraces 1 = .ok (.iload_n 1, 1) := by decide +kernel
theorem dX9_laysTraces_2 : decode cX9_laysTraces 2 = .ok (.invokevirtual 128, 3) := by decide +kernel
theorem dX9_laysTraces_5 : decode cX9_laysTraces 5 = .ok (.iconst 0, 1) := by decide +kernel
theorem dX9_laysTraces_6 : decode cX9_laysTraces 6 = .ok (.istore 4, 2) := by decide +kernel
theorem dX9_laysTraces_8 : decode cX9_laysTraces 8 = .ok (.iload 4, 2) := by decide +kernel
theorem dX9_laysTraces_10 : decode cX9_laysTraces 10 = .ok (.bipush 18, 2) := by decide +kernel
theorem dX9_laysTraces_12 : decode cX9_laysTraces 12 = .ok (.aload_n 0, 1) := by decide +kernel
theorem dX9_laysTraces_13 : decode cX9_laysTraces 13 = .ok (.getfield 117, 3) := by decide +kernel
theorem dX9_laysTraces_16 : decode cX9_laysTraces 16 = .ok (.imul, 1) := by decide +kernel
theorem dX9_laysTraces_17 : decode cX9_laysTraces 17 = .ok (.if_icmp .ge 23, 3) := by decide +kernel
theorem dX9_laysTraces_20 : decode cX9_laysTraces 20 = .ok (.aload_n 0, 1) := by decide +kernel
theorem dX9_laysTraces_21 : decode cX9_laysTraces 21 = .ok (.getfield 29, 3) := by decide +kernel
theorem dX9_laysTraces_24 : decode cX9_laysTraces 24 = .ok (.iload 4, 2) := by decide +kernel
theorem dX9_laysTraces_26 : decode cX9_laysTraces 26 = .ok (.aload_n 0, 1) := by decide +kernel
theorem dX9_laysTraces_27 : decode cX9_laysTraces 27 = .ok (.getfield 25, 3) := by decide +kernel
theorem dX9_laysTraces_30 : decode cX9_laysTraces 30 = .ok (.iload 4, 2) := by decide +kernel
theorem dX9_laysTraces_32 : decode cX9_laysTraces 32 = .ok (.laload, 1) := by decide +kernel
theorem dX9_laysTraces_33 : decode cX9_laysTraces 33 = .ok (.lastore, 1) := by decide +kernel
theorem dX9_laysTraces_34 : decode cX9_laysTraces 34 = .ok (.iinc 4 1, 3) := by decide +kernel
theorem dX9_laysTraces_37 : decode cX9_laysTraces 37 = .ok (.goto (-29), 3) := by decide +kernel
theorem dX9_laysTraces_40 : decode cX9_laysTraces 40 = .ok (.iconst 1, 1) := by decide +kernel
theorem dX9_laysTraces_41 : decode cX9_laysTraces 41 = .ok (.istore 4, 2) := by decide +kernel
theorem dX9_laysTraces_43 : decode cX9_laysTraces 43 = .ok (.iload 4, 2) := by decide +kernel
theorem dX9_laysTraces_45 : decode cX9_laysTraces 45 = .ok (.iload_n 2, 1) := by decide +kernel
theorem dX9_laysTraces_46 : decode cX9_laysTraces 46 = .ok (.if_icmp .gt 62, 3) := by decide +kernel
theorem dX9_laysTraces_49 : decode cX9_laysTraces 49 = .ok (.iload 4, 2) := by decide +kernel
theorem dX9_laysTraces_51 : decode cX9_laysTraces 51 = .ok (.iconst 1, 1) := by decide +kernel
theorem dX9_laysTraces_52 : decode cX9_laysTraces 52 = .ok (.if_icmp .le 7, 3) := by decide +kernel
theorem dX9_laysTraces_55 : decode cX9_laysTraces 55 = .ok (.aload_n 0, 1) := by decide +kernel
theorem dX9_laysTraces_56 : decode cX9_laysTraces 56 = .ok (.invokevirtual 138, 3) := by decide +kernel
theorem dX9_laysTraces_59 : decode cX9_laysTraces 59 = .ok (.aload_n 3, 1) := by decide +kernel
theorem dX9_laysTraces_60 : decode cX9_laysTraces 60 = .ok (.iload 4, 2) := by decide +kernel
theorem dX9_laysTraces_62 : decode cX9_laysTraces 62 = .ok (.lconst 0, 1) := by decide +kernel
theorem dX9_laysTraces_63 : decode cX9_laysTraces 63 = .ok (.lastore, 1) := by decide +kernel
theorem dX9_laysTraces_64 : decode cX9_laysTraces 64 = .ok (.iconst 0, 1) := by decide +kernel
theorem dX9_laysTraces_65 : decode cX9_laysTraces 65 = .ok (.istore 5, 2) := by decide +kernel
theorem dX9_laysTraces_67 : decode cX9_laysTraces 67 = .ok (.iload 5, 2) := by decide +kernel
theorem dX9_laysTraces_69 : decode cX9_laysTraces 69 = .ok (.aload_n 0, 1) := by decide +kernel
theorem dX9_laysTraces_70 : decode cX9_laysTraces 70 = .ok (.getfield 117, 3) := by decide +kernel
theorem dX9_laysTraces_73 : decode cX9_laysTraces 73 = .ok (.if_icmp .ge 29, 3) := by decide +kernel
theorem dX9_laysTraces_76 : decode cX9_laysTraces 76 = .ok (.aload_n 3, 1) := by decide +kernel
theorem dX9_laysTraces_77 : decode cX9_laysTraces 77 = .ok (.iload 4, 2) := by decide +kernel
theorem dX9_laysTraces_79 : decode cX9_laysTraces 79 = .ok (.dup2, 1) := by decide +kernel
theorem dX9_laysTraces_80 : decode cX9_laysTraces 80 = .ok (.laload, 1) := by decide +kernel
theorem dX9_laysTraces_81 : decode cX9_laysTraces 81 = .ok (.aload_n 0, 1) := by decide +kernel
theorem dX9_laysTraces_82 : decode cX9_laysTraces 82 = .ok (.getfield 29, 3) := by decide +kernel
theorem dX9_laysTraces_85 : decode cX9_laysTraces 85 = .ok (.bipush 18, 2) := by decide +kernel
theorem dX9_laysTraces_87 : decode cX9_laysTraces 87 = .ok (.iload 5, 2) := by decide +kernel
theorem dX9_laysTraces_89 : decode cX9_laysTraces 89 = .ok (.imul, 1) := by decide +kernel
theorem dX9_laysTraces_90 : decode cX9_laysTraces 90 = .ok (.iload 5, 2) := by decide +kernel
theorem dX9_laysTraces_92 : decode cX9_laysTraces 92 = .ok (.iadd, 1) := by decide +kernel
theorem dX9_laysTraces_93 : decode cX9_laysTraces 93 = .ok (.laload, 1) := by decide +kernel
theorem dX9_laysTraces_94 : decode cX9_laysTraces 94 = .ok (.ladd, 1) := by decide +kernel
theorem dX9_laysTraces_95 : decode cX9_laysTraces 95 = .ok (.lastore, 1) := by decide +kernel
theorem dX9_laysTraces_96 : decode cX9_laysTraces 96 = .ok (.iinc 5 1, 3) := by decide +kernel
theorem dX9_laysTraces_99 : decode cX9_laysTraces 99 = .ok (.goto (-32), 3) := by decide +kernel
theorem dX9_laysTraces_102 : decode cX9_laysTraces 102 = .ok (.iinc 4 1, 3) := by decide +kernel
theorem dX9_laysTraces_105 : decode cX9_laysTraces 105 = .ok (.goto (-62), 3) := by decide +kernel
theorem dX9_laysTraces_108 : decode cX9_laysTraces 108 = .ok (.return_, 1) := by decide +kernel
theorem dX9_isLength_0 : decode cX9_isLength 0 = .ok (.iload_n 0, 1) := by decide +kernel
theorem dX9_isLength_1 : decode cX9_isLength 1 = .ok (.iconst 1, 1) := by decide +kernel
theorem dX9_isLength_2 : decode cX9_isLength 2 = .ok (.bipush 18, 2) := by decide +kernel
theorem dX9_isLength_4 : decode cX9_isLength 4 = .ok (.invokestatic 65, 3) := by decide +kernel
theorem dX9_isLength_7 : decode cX9_isLength 7 = .ok (.ireturn, 1) := by decide +kernel
theorem dX9_walksOf_0 : decode cX9_walksOf 0 = .ok (.aload_n 0, 1) := by decide +kernel
theorem dX9_walksOf_1 : decode cX9_walksOf 1 = .ok (.iload_n 1, 1) := by decide +kernel
theorem dX9_walksOf_2 : decode cX9_walksOf 2 = .ok (.iload_n 2, 1) := by decide +kernel
theorem dX9_walksOf_3 : decode cX9_walksOf 3 = .ok (.aload_n 0, 1) := by decide +kernel
theorem dX9_walksOf_4 : decode cX9_walksOf 4 = .ok (.getfield 50, 3) := by decide +kernel
theorem dX9_walksOf_7 : decode cX9_walksOf 7 = .ok (.invokevirtual 141, 3) := by decide +kernel
theorem dX9_walksOf_10 : decode cX9_walksOf 10 = .ok (.aload_n 0, 1) := by decide +kernel
theorem dX9_walksOf_11 : decode cX9_walksOf 11 = .ok (.getfield 50, 3) := by decide +kernel
theorem dX9_walksOf_14 : decode cX9_walksOf 14 = .ok (.iload_n 2, 1) := by decide +kernel
theorem dX9_walksOf_15 : decode cX9_walksOf 15 = .ok (.laload, 1) := by decide +kernel
theorem dX9_walksOf_16 : decode cX9_walksOf 16 = .ok (.lreturn, 1) := by decide +kernel
theorem dX9_walks_0 : decode cX9_walks 0 = .ok (.iload_n 1, 1) := by decide +kernel
theorem dX9_walks_1 : decode cX9_walks 1 = .ok (.invokestatic 145, 3) := by decide +kernel
theorem dX9_walks_4 : decode cX9_walks 4 = .ok (.ifCond .eq 12, 3) := by decide +kernel
theorem dX9_walks_7 : decode cX9_walks 7 = .ok (.aload_n 0, 1) := by decide +kernel
theorem dX9_walks_8 : decode cX9_walks 8 = .ok (.iconst 0, 1) := by decide +kernel
theorem dX9_walks_9 : decode cX9_walks 9 = .ok (.iload_n 1, 1) := by decide +kernel
theorem dX9_walks_10 : decode cX9_walks 10 = .ok (.invokevirtual 148, 3) := by decide +kernel
theorem dX9_walks_13 : decode cX9_walks 13 = .ok (.goto 6, 3) := by decide +kernel
theorem dX9_walks_16 : decode cX9_walks 16 = .ok (.ldc2_w 152, 3) := by decide +kernel
theorem dX9_walks_19 : decode cX9_walks 19 = .ok (.lreturn, 1) := by decide +kernel
theorem dX9_signedWalks_0 : decode cX9_signedWalks 0 = .ok (.iload_n 1, 1) := by decide +kernel
theorem dX9_signedWalks_1 : decode cX9_signedWalks 1 = .ok (.invokestatic 145, 3) := by decide +kernel
theorem dX9_signedWalks_4 : decode cX9_signedWalks 4 = .ok (.ifCond .eq 12, 3) := by decide +kernel
theorem dX9_signedWalks_7 : decode cX9_signedWalks 7 = .ok (.aload_n 0, 1) := by decide +kernel
theorem dX9_signedWalks_8 : decode cX9_signedWalks 8 = .ok (.iconst 1, 1) := by decide +kernel
theorem dX9_signedWalks_9 : decode cX9_signedWalks 9 = .ok (.iload_n 1, 1) := by decide +kernel
theorem dX9_signedWalks_10 : decode cX9_signedWalks 10 = .ok (.invokevirtual 148, 3) := by decide +kernel
theorem dX9_signedWalks_13 : decode cX9_signedWalks 13 = .ok (.goto 6, 3) := by decide +kernel
theorem dX9_signedWalks_16 : decode cX9_signedWalks 16 = .ok (.ldc2_w 152, 3) := by decide +kernel
theorem dX9_signedWalks_19 : decode cX9_signedWalks 19 = .ok (.lreturn, 1) := by decide +kernel
theorem dX9_coverWalks_0 : decode cX9_coverWalks 0 = .ok (.iload_n 1, 1) := by decide +kernel
theorem dX9_coverWalks_1 : decode cX9_coverWalks 1 = .ok (.invokestatic 145, 3) := by decide +kernel
theorem dX9_coverWalks_4 : decode cX9_coverWalks 4 = .ok (.ifCond .eq 19, 3) := by decide +kernel
theorem dX9_coverWalks_7 : decode cX9_coverWalks 7 = .ok (.aload_n 0, 1) := by decide +kernel
theorem dX9_coverWalks_8 : decode cX9_coverWalks 8 = .ok (.iconst 0, 1) := by decide +kernel
theorem dX9_coverWalks_9 : decode cX9_coverWalks 9 = .ok (.iload_n 1, 1) := by decide +kernel
theorem dX9_coverWalks_10 : decode cX9_coverWalks 10 = .ok (.invokevirtual 148, 3) := by decide +kernel
theorem dX9_coverWalks_13 : decode cX9_coverWalks 13 = .ok (.aload_n 0, 1) := by decide +kernel
theorem dX9_coverWalks_14 : decode cX9_coverWalks 14 = .ok (.iconst 1, 1) := by decide +kernel
theorem dX9_coverWalks_15 : decode cX9_coverWalks 15 = .ok (.iload_n 1, 1) := by decide +kernel
theorem dX9_coverWalks_16 : decode cX9_coverWalks 16 = .ok (.invokevirtual 148, 3) := by decide +kernel
theorem dX9_coverWalks_19 : decode cX9_coverWalks 19 = .ok (.ladd, 1) := by decide +kernel
theorem dX9_coverWalks_20 : decode cX9_coverWalks 20 = .ok (.goto 6, 3) := by decide +kernel
theorem dX9_coverWalks_23 : decode cX9_coverWalks 23 = .ok (.ldc2_w 152, 3) := by decide +kernel
theorem dX9_coverWalks_26 : decode cX9_coverWalks 26 = .ok (.lreturn, 1) := by decide +kernel
theorem dX9_laysPrimes_0 : decode cX9_laysPrimes 0 = .ok (.aload_n 0, 1) := by decide +kernel
theorem dX9_laysPrimes_1 : decode cX9_laysPrimes 1 = .ok (.iconst 0, 1) := by decide +kernel
theorem dX9_laysPrimes_2 : decode cX9_laysPrimes 2 = .ok (.iload_n 1, 1) := by decide +kernel
theorem dX9_laysPrimes_3 : decode cX9_laysPrimes 3 = .ok (.aload_n 0, 1) := by decide +kernel
theorem dX9_laysPrimes_4 : decode cX9_laysPrimes 4 = .ok (.getfield 50, 3) := by decide +kernel
theorem dX9_laysPrimes_7 : decode cX9_laysPrimes 7 = .ok (.invokevirtual 141, 3) := by decide +kernel
theorem dX9_laysPrimes_10 : decode cX9_laysPrimes 10 = .ok (.aload_n 0, 1) := by decide +kernel
theorem dX9_laysPrimes_11 : decode cX9_laysPrimes 11 = .ok (.iconst 1, 1) := by decide +kernel
theorem dX9_laysPrimes_12 : decode cX9_laysPrimes 12 = .ok (.iload_n 1, 1) := by decide +kernel
theorem dX9_laysPrimes_13 : decode cX9_laysPrimes 13 = .ok (.aload_n 0, 1) := by decide +kernel
theorem dX9_laysPrimes_14 : decode cX9_laysPrimes 14 = .ok (.getfield 53, 3) := by decide +kernel
theorem dX9_laysPrimes_17 : decode cX9_laysPrimes 17 = .ok (.invokevirtual 141, 3) := by decide +kernel
theorem dX9_laysPrimes_20 : decode cX9_laysPrimes 20 = .ok (.iconst 1, 1) := by decide +kernel
theorem dX9_laysPrimes_21 : decode cX9_laysPrimes 21 = .ok (.istore_n 2, 1) := by decide +kernel
theorem dX9_laysPrimes_22 : decode cX9_laysPrimes 22 = .ok (.iload_n 2, 1) := by decide +kernel
theorem dX9_laysPrimes_23 : decode cX9_laysPrimes 23 = .ok (.iload_n 1, 1) := by decide +kernel
theorem dX9_laysPrimes_24 : decode cX9_laysPrimes 24 = .ok (.if_icmp .gt 153, 3) := by decide +kernel
theorem dX9_laysPrimes_27 : decode cX9_laysPrimes 27 = .ok (.aload_n 0, 1) := by decide +kernel
theorem dX9_laysPrimes_28 : decode cX9_laysPrimes 28 = .ok (.getfield 50, 3) := by decide +kernel
theorem dX9_laysPrimes_31 : decode cX9_laysPrimes 31 = .ok (.iload_n 2, 1) := by decide +kernel
theorem dX9_laysPrimes_32 : decode cX9_laysPrimes 32 = .ok (.laload, 1) := by decide +kernel
theorem dX9_laysPrimes_33 : decode cX9_laysPrimes 33 = .ok (.lstore_n 3, 1) := by decide +kernel
theorem dX9_laysPrimes_34 : decode cX9_laysPrimes 34 = .ok (.aload_n 0, 1) := by decide +kernel
theorem dX9_laysPrimes_35 : decode cX9_laysPrimes 35 = .ok (.getfield 53, 3) := by decide +kernel
theorem dX9_laysPrimes_38 : decode cX9_laysPrimes 38 = .ok (.iload_n 2, 1) := by decide +kernel
theorem dX9_laysPrimes_39 : decode cX9_laysPrimes 39 = .ok (.laload, 1) := by decide +kernel
theorem dX9_laysPrimes_40 : decode cX9_laysPrimes 40 = .ok (.lstore 5, 2) := by decide +kernel
theorem dX9_laysPrimes_42 : decode cX9_laysPrimes 42 = .ok (.iconst 1, 1) := by decide +kernel
theorem dX9_laysPrimes_43 : decode cX9_laysPrimes 43 = .ok (.istore 7, 2) := by decide +kernel
theorem dX9_laysPrimes_45 : decode cX9_laysPrimes 45 = .ok (.iload 7, 2) := by decide +kernel
theorem dX9_laysPrimes_47 : decode cX9_laysPrimes 47 = .ok (.iload_n 2, 1) := by decide +kernel
theorem dX9_laysPrimes_48 : decode cX9_laysPrimes 48 = .ok (.if_icmp .ge 89, 3) := by decide +kernel
theorem dX9_laysPrimes_51 : decode cX9_laysPrimes 51 = .ok (.iload_n 2, 1) := by decide +kernel
theorem dX9_laysPrimes_52 : decode cX9_laysPrimes 52 = .ok (.iload 7, 2) := by decide +kernel
theorem dX9_laysPrimes_54 : decode cX9_laysPrimes 54 = .ok (.irem, 1) := by decide +kernel
theorem dX9_laysPrimes_55 : decode cX9_laysPrimes 55 = .ok (.ifCond .ne 76, 3) := by decide +kernel
theorem dX9_laysPrimes_58 : decode cX9_laysPrimes 58 = .ok (.lload_n 3, 1) := by decide +kernel
theorem dX9_laysPrimes_59 : decode cX9_laysPrimes 59 = .ok (.iload 7, 2) := by decide +kernel
theorem dX9_laysPrimes_61 : decode cX9_laysPrimes 61 = .ok (.i2l, 1) := by decide +kernel
theorem dX9_laysPrimes_62 : decode cX9_laysPrimes 62 = .ok (.aload_n 0, 1) := by decide +kernel
theorem dX9_laysPrimes_63 : decode cX9_laysPrimes 63 = .ok (.getfield 56, 3) := by decide +kernel
theorem dX9_laysPrimes_66 : decode cX9_laysPrimes 66 = .ok (.iload 7, 2) := by decide +kernel
theorem dX9_laysPrimes_68 : decode cX9_laysPrimes 68 = .ok (.laload, 1) := by decide +kernel
theorem dX9_laysPrimes_69 : decode cX9_laysPrimes 69 = .ok (.aload_n 0, 1) := by decide +kernel
theorem dX9_laysPrimes_70 : decode cX9_laysPrimes 70 = .ok (.getfield 59, 3) := by decide +kernel
theorem dX9_laysPrimes_73 : decode cX9_laysPrimes 73 = .ok (.iload 7, 2) := by decide +kernel
theorem dX9_laysPrimes_75 : decode cX9_laysPrimes 75 = .ok (.laload, 1) := by decide +kernel
theorem dX9_laysPrimes_76 : decode cX9_laysPrimes 76 = .ok (.ladd, 1) := by decide +kernel
theorem dX9_laysPrimes_77 : decode cX9_laysPrimes 77 = .ok (.lmul, 1) := by decide +kernel
theorem dX9_laysPrimes_78 : decode cX9_laysPrimes 78 = .ok (.lsub, 1) := by decide +kernel
theorem dX9_laysPrimes_79 : decode cX9_laysPrimes 79 = .ok (.lstore_n 3, 1) := by decide +kernel
theorem dX9_laysPrimes_80 : decode cX9_laysPrimes 80 = .ok (.lload 5, 2) := by decide +kernel
theorem dX9_laysPrimes_82 : decode cX9_laysPrimes 82 = .ok (.iload 7, 2) := by decide +kernel
theorem dX9_laysPrimes_84 : decode cX9_laysPrimes 84 = .ok (.i2l, 1) := by decide +kernel
theorem dX9_laysPrimes_85 : decode cX9_laysPrimes 85 = .ok (.iload_n 2, 1) := by decide +kernel
theorem dX9_laysPrimes_86 : decode cX9_laysPrimes 86 = .ok (.iload 7, 2) := by decide +kernel
theorem dX9_laysPrimes_88 : decode cX9_laysPrimes 88 = .ok (.idiv, 1) := by decide +kernel
theorem dX9_laysPrimes_89 : decode cX9_laysPrimes 89 = .ok (.iconst 2, 1) := by decide +kernel
theorem dX9_laysPrimes_90 : decode cX9_laysPrimes 90 = .ok (.irem, 1) := by decide +kernel
theorem dX9_laysPrimes_91 : decode cX9_laysPrimes 91 = .ok (.ifCond .ne 21, 3) := by decide +kernel
theorem dX9_laysPrimes_94 : decode cX9_laysPrimes 94 = .ok (.aload_n 0, 1) := by decide +kernel
theorem dX9_laysPrimes_95 : decode cX9_laysPrimes 95 = .ok (.getfield 56, 3) := by decide +kernel
theorem dX9_laysPrimes_98 : decode cX9_laysPrimes 98 = .ok (.iload 7, 2) := by decide +kernel
theorem dX9_laysPrimes_100 : decode cX9_laysPrimes 100 = .ok (.laload, 1) := by decide +kernel
theorem dX9_laysPrimes_101 : decode cX9_laysPrimes 101 = .ok (.aload_n 0, 1) := by decide +kernel
theorem dX9_laysPrimes_102 : decode cX9_laysPrimes 102 = .ok (.getfield 59, 3) := by decide +kernel
theorem dX9_laysPrimes_105 : decode cX9_laysPrimes 105 = .ok (.iload 7, 2) := by decide +kernel
theorem dX9_laysPrimes_107 : decode cX9_laysPrimes 107 = .ok (.laload, 1) := by decide +kernel
theorem dX9_laysPrimes_108 : decode cX9_laysPrimes 108 = .ok (.ladd, 1) := by decide +kernel
theorem dX9_laysPrimes_109 : decode cX9_laysPrimes 109 = .ok (.goto 18, 3) := by decide +kernel
theorem dX9_laysPrimes_112 : decode cX9_laysPrimes 112 = .ok (.aload_n 0, 1) := by decide +kernel
theorem dX9_laysPrimes_113 : decode cX9_laysPrimes 113 = .ok (.getfield 56, 3) := by decide +kernel
theorem dX9_laysPrimes_116 : decode cX9_laysPrimes 116 = .ok (.iload 7, 2) := by decide +kernel
theorem dX9_laysPrimes_118 : decode cX9_laysPrimes 118 = .ok (.laload, 1) := by decide +kernel
theorem dX9_laysPrimes_119 : decode cX9_laysPrimes 119 = .ok (.aload_n 0, 1) := by decide +kernel
theorem dX9_laysPrimes_120 : decode cX9_laysPrimes 120 = .ok (.getfield 59, 3) := by decide +kernel
theorem dX9_laysPrimes_123 : decode cX9_laysPrimes 123 = .ok (.iload 7, 2) := by decide +kernel
theorem dX9_laysPrimes_125 : decode cX9_laysPrimes 125 = .ok (.laload, 1) := by decide +kernel
theorem dX9_laysPrimes_126 : decode cX9_laysPrimes 126 = .ok (.lsub, 1) := by decide +kernel
theorem dX9_laysPrimes_127 : decode cX9_laysPrimes 127 = .ok (.lmul, 1) := by decide +kernel
theorem dX9_laysPrimes_128 : decode cX9_laysPrimes 128 = .ok (.lsub, 1) := by decide +kernel
theorem dX9_laysPrimes_129 : decode cX9_laysPrimes 129 = .ok (.lstore 5, 2) := by decide +kernel
theorem dX9_laysPrimes_131 : decode cX9_laysPrimes 131 = .ok (.iinc 7 1, 3) := by decide +kernel
theorem dX9_laysPrimes_134 : decode cX9_laysPrimes 134 = .ok (.goto (-89), 3) := by decide +kernel
theorem dX9_laysPrimes_137 : decode cX9_laysPrimes 137 = .ok (.aload_n 0, 1) := by decide +kernel
theorem dX9_laysPrimes_138 : decode cX9_laysPrimes 138 = .ok (.getfield 56, 3) := by decide +kernel
theorem dX9_laysPrimes_141 : decode cX9_laysPrimes 141 = .ok (.iload_n 2, 1) := by decide +kernel
theorem dX9_laysPrimes_142 : decode cX9_laysPrimes 142 = .ok (.lload_n 3, 1) := by decide +kernel
theorem dX9_laysPrimes_143 : decode cX9_laysPrimes 143 = .ok (.lload 5, 2) := by decide +kernel
theorem dX9_laysPrimes_145 : decode cX9_laysPrimes 145 = .ok (.ladd, 1) := by decide +kernel
theorem dX9_laysPrimes_146 : decode cX9_laysPrimes 146 = .ok (.ldc2_w 154, 3) := by decide +kernel
theorem dX9_laysPrimes_149 : decode cX9_laysPrimes 149 = .ok (.ldiv, 1) := by decide +kernel
theorem dX9_laysPrimes_150 : decode cX9_laysPrimes 150 = .ok (.iload_n 2, 1) := by decide +kernel
theorem dX9_laysPrimes_151 : decode cX9_laysPrimes 151 = .ok (.i2l, 1) := by decide +kernel
theorem dX9_laysPrimes_152 : decode cX9_laysPrimes 152 = .ok (.ldiv, 1) := by decide +kernel
theorem dX9_laysPrimes_153 : decode cX9_laysPrimes 153 = .ok (.lastore, 1) := by decide +kernel
theorem dX9_laysPrimes_154 : decode cX9_laysPrimes 154 = .ok (.aload_n 0, 1) := by decide +kernel
theorem dX9_laysPrimes_155 : decode cX9_laysPrimes 155 = .ok (.getfield 59, 3) := by decide +kernel
theorem dX9_laysPrimes_158 : decode cX9_laysPrimes 158 = .ok (.iload_n 2, 1) := by decide +kernel
theorem dX9_laysPrimes_159 : decode cX9_laysPrimes 159 = .ok (.lload_n 3, 1) := by decide +kernel
theorem dX9_laysPrimes_160 : decode cX9_laysPrimes 160 = .ok (.lload 5, 2) := by decide +kernel
theorem dX9_laysPrimes_162 : decode cX9_laysPrimes 162 = .ok (.lsub, 1) := by decide +kernel
theorem dX9_laysPrimes_163 : decode cX9_laysPrimes 163 = .ok (.ldc2_w 154, 3) := by decide +kernel
theorem dX9_laysPrimes_166 : decode cX9_laysPrimes 166 = .ok (.ldiv, 1) := by decide +kernel
theorem dX9_laysPrimes_167 : decode cX9_laysPrimes 167 = .ok (.iload_n 2, 1) := by decide +kernel
theorem dX9_laysPrimes_168 : decode cX9_laysPrimes 168 = .ok (.i2l, 1) := by decide +kernel
theorem dX9_laysPrimes_169 : decode cX9_laysPrimes 169 = .ok (.ldiv, 1) := by decide +kernel
theorem dX9_laysPrimes_170 : decode cX9_laysPrimes 170 = .ok (.lastore, 1) := by decide +kernel
theorem dX9_laysPrimes_171 : decode cX9_laysPrimes 171 = .ok (.iinc 2 1, 3) := by decide +kernel
theorem dX9_laysPrimes_174 : decode cX9_laysPrimes 174 = .ok (.goto (-152), 3) := by decide +kernel
theorem dX9_laysPrimes_177 : decode cX9_laysPrimes 177 = .ok (.return_, 1) := by decide +kernel
theorem dX9_primes_0 : decode cX9_primes 0 = .ok (.iload_n 1, 1) := by decide +kernel
theorem dX9_primes_1 : decode cX9_primes 1 = .ok (.invokestatic 145, 3) := by decide +kernel
theorem dX9_primes_4 : decode cX9_primes 4 = .ok (.ifCond .ne 7, 3) := by decide +kernel
theorem dX9_primes_7 : decode cX9_primes 7 = .ok (.ldc2_w 152, 3) := by decide +kernel
theorem dX9_primes_10 : decode cX9_primes 10 = .ok (.lreturn, 1) := by decide +kernel
theorem dX9_primes_11 : decode cX9_primes 11 = .ok (.aload_n 0, 1) := by decide +kernel
theorem dX9_primes_12 : decode cX9_primes 12 = .ok (.iload_n 1, 1) := by decide +kernel
theorem dX9_primes_13 : decode cX9_primes 13 = .ok (.invokevirtual 156, 3) := by decide +kernel
theorem dX9_primes_16 : decode cX9_primes 16 = .ok (.aload_n 0, 1) := by decide +kernel
theorem dX9_primes_17 : decode cX9_primes 17 = .ok (.getfield 56, 3) := by decide +kernel
theorem dX9_primes_20 : decode cX9_primes 20 = .ok (.iload_n 1, 1) := by decide +kernel
theorem dX9_primes_21 : decode cX9_primes 21 = .ok (.laload, 1) := by decide +kernel
theorem dX9_primes_22 : decode cX9_primes 22 = .ok (.aload_n 0, 1) := by decide +kernel
theorem dX9_primes_23 : decode cX9_primes 23 = .ok (.getfield 59, 3) := by decide +kernel
theorem dX9_primes_26 : decode cX9_primes 26 = .ok (.iload_n 1, 1) := by decide +kernel
theorem dX9_primes_27 : decode cX9_primes 27 = .ok (.laload, 1) := by decide +kernel
theorem dX9_primes_28 : decode cX9_primes 28 = .ok (.ladd, 1) := by decide +kernel
theorem dX9_primes_29 : decode cX9_primes 29 = .ok (.lreturn, 1) := by decide +kernel
theorem dX9_positivePrimes_0 : decode cX9_positivePrimes 0 = .ok (.iload_n 1, 1) := by decide +kernel
theorem dX9_positivePrimes_1 : decode cX9_positivePrimes 1 = .ok (.invokestatic 145, 3) := by decide +kernel
theorem dX9_positivePrimes_4 : decode cX9_positivePrimes 4 = .ok (.ifCond .ne 7, 3) := by decide +kernel
theorem dX9_positivePrimes_7 : decode cX9_positivePrimes 7 = .ok (.ldc2_w 152, 3) := by decide +kernel
theorem dX9_positivePrimes_10 : decode cX9_positivePrimes 10 = .ok (.lreturn, 1) := by decide +kernel
theorem dX9_positivePrimes_11 : decode cX9_positivePrimes 11 = .ok (.aload_n 0, 1) := by decide +kernel
theorem dX9_positivePrimes_12 : decode cX9_positivePrimes 12 = .ok (.iload_n 1, 1) := by decide +kernel
theorem dX9_positivePrimes_13 : decode cX9_positivePrimes 13 = .ok (.invokevirtual 156, 3) := by decide +kernel
theorem dX9_positivePrimes_16 : decode cX9_positivePrimes 16 = .ok (.aload_n 0, 1) := by decide +kernel
theorem dX9_positivePrimes_17 : decode cX9_positivePrimes 17 = .ok (.getfield 56, 3) := by decide +kernel
theorem dX9_positivePrimes_20 : decode cX9_positivePrimes 20 = .ok (.iload_n 1, 1) := by decide +kernel
theorem dX9_positivePrimes_21 : decode cX9_positivePrimes 21 = .ok (.laload, 1) := by decide +kernel
theorem dX9_positivePrimes_22 : decode cX9_positivePrimes 22 = .ok (.lreturn, 1) := by decide +kernel
theorem dX9_girth_0 : decode cX9_girth 0 = .ok (.aload_n 0, 1) := by decide +kernel
theorem dX9_girth_1 : decode cX9_girth 1 = .ok (.bipush 18, 2) := by decide +kernel
theorem dX9_girth_3 : decode cX9_girth 3 = .ok (.invokevirtual 156, 3) := by decide +kernel
theorem dX9_girth_6 : decode cX9_girth 6 = .ok (.iconst 1, 1) := by decide +kernel
theorem dX9_girth_7 : decode cX9_girth 7 = .ok (.istore_n 1, 1) := by decide +kernel
theorem dX9_girth_8 : decode cX9_girth 8 = .ok (.iload_n 1, 1) := by decide +kernel
theorem dX9_girth_9 : decode cX9_girth 9 = .ok (.bipush 18, 2) := by decide +kernel
theorem dX9_girth_11 : decode cX9_girth 11 = .ok (.if_icmp .gt 29, 3) := by decide +kernel
theorem dX9_girth_14 : decode cX9_girth 14 = .ok (.aload_n 0, 1) := by decide +kernel
theorem dX9_girth_15 : decode cX9_girth 15 = .ok (.getfield 56, 3) := by decide +kernel
theorem dX9_girth_18 : decode cX9_girth 18 = .ok (.iload_n 1, 1) := by decide +kernel
theorem dX9_girth_19 : decode cX9_girth 19 = .ok (.laload, 1) := by decide +kernel
theorem dX9_girth_20 : decode cX9_girth 20 = .ok (.aload_n 0, 1) := by decide +kernel
theorem dX9_girth_21 : decode cX9_girth 21 = .ok (.getfield 59, 3) := by decide +kernel
theorem dX9_girth_24 : decode cX9_girth 24 = .ok (.iload_n 1, 1) := by decide +kernel
theorem dX9_girth_25 : decode cX9_girth 25 = .ok (.laload, 1) := by decide +kernel
theorem dX9_girth_26 : decode cX9_girth 26 = .ok (.ladd, 1) := by decide +kernel
theorem dX9_girth_27 : decode cX9_girth 27 = .ok (.lconst 0, 1) := by decide +kernel
theorem dX9_girth_28 : decode cX9_girth 28 = .ok (.lcmp, 1) := by decide +kernel
theorem dX9_girth_29 : decode cX9_girth 29 = .ok (.ifCond .le 5, 3) := by decide +kernel
theorem dX9_girth_32 : decode cX9_girth 32 = .ok (.iload_n 1, 1) := by decide +kernel
theorem dX9_girth_33 : decode cX9_girth 33 = .ok (.ireturn, 1) := by decide +kernel
theorem dX9_girth_34 : decode cX9_girth 34 = .ok (.iinc 1 1, 3) := by decide +kernel
theorem dX9_girth_37 : decode cX9_girth 37 = .ok (.goto (-29), 3) := by decide +kernel
theorem dX9_girth_40 : decode cX9_girth 40 = .ok (.bipush (-9), 2) := by decide +kernel
theorem dX9_girth_42 : decode cX9_girth 42 = .ok (.ireturn, 1) := by decide +kernel
theorem dX9_period_0 : decode cX9_period 0 = .ok (.aload_n 0, 1) := by decide +kernel
theorem dX9_period_1 : decode cX9_period 1 = .ok (.bipush 18, 2) := by decide +kernel
theorem dX9_period_3 : decode cX9_period 3 = .ok (.invokevirtual 156, 3) := by decide +kernel
theorem dX9_period_6 : decode cX9_period 6 = .ok (.iconst 0, 1) := by decide +kernel
theorem dX9_period_7 : decode cX9_period 7 = .ok (.istore_n 1, 1) := by decide +kernel
theorem dX9_period_8 : decode cX9_period 8 = .ok (.iconst 1, 1) := by decide +kernel
theorem dX9_period_9 : decode cX9_period 9 = .ok (.istore_n 2, 1) := by decide +kernel
theorem dX9_period_10 : decode cX9_period 10 = .ok (.iload_n 2, 1) := by decide +kernel
theorem dX9_period_11 : decode cX9_period 11 = .ok (.bipush 18, 2) := by decide +kernel
theorem dX9_period_13 : decode cX9_period 13 = .ok (.if_icmp .gt 59, 3) := by decide +kernel
theorem dX9_period_16 : decode cX9_period 16 = .ok (.iload_n 2, 1) := by decide +kernel
theorem dX9_period_17 : decode cX9_period 17 = .ok (.istore_n 3, 1) := by decide +kernel
theorem dX9_period_18 : decode cX9_period 18 = .ok (.iload_n 1, 1) := by decide +kernel
theorem dX9_period_19 : decode cX9_period 19 = .ok (.istore 4, 2) := by decide +kernel
theorem dX9_period_21 : decode cX9_period 21 = .ok (.iload 4, 2) := by decide +kernel
theorem dX9_period_23 : decode cX9_period 23 = .ok (.ifCond .eq 19, 3) := by decide +kernel
theorem dX9_period_26 : decode cX9_period 26 = .ok (.iload_n 3, 1) := by decide +kernel
theorem dX9_period_27 : decode cX9_period 27 = .ok (.iload 4, 2) := by decide +kernel
theorem dX9_period_29 : decode cX9_period 29 = .ok (.irem, 1) := by decide +kernel
theorem dX9_period_30 : decode cX9_period 30 = .ok (.istore 5, 2) := by decide +kernel
theorem dX9_period_32 : decode cX9_period 32 = .ok (.iload 4, 2) := by decide +kernel
theorem dX9_period_34 : decode cX9_period 34 = .ok (.istore_n 3, 1) := by decide +kernel
theorem dX9_period_35 : decode cX9_period 35 = .ok (.iload 5, 2) := by decide +kernel
theorem dX9_period_37 : decode cX9_period 37 = .ok (.istore 4, 2) := by decide +kernel
theorem dX9_period_39 : decode cX9_period 39 = .ok (.goto (-18), 3) := by decide +kernel
theorem dX9_period_42 : decode cX9_period 42 = .ok (.aload_n 0, 1) := by decide +kernel
theorem dX9_period_43 : decode cX9_period 43 = .ok (.getfield 56, 3) := by decide +kernel
theorem dX9_period_46 : decode cX9_period 46 = .ok (.iload_n 2, 1) := by decide +kernel
theorem dX9_period_47 : decode cX9_period 47 = .ok (.laload, 1) := by decide +kernel
theorem dX9_period_48 : decode cX9_period 48 = .ok (.aload_n 0, 1) := by decide +kernel
theorem dX9_period_49 : decode cX9_period 49 = .ok (.getfield 59, 3) := by decide +kernel
theorem dX9_period_52 : decode cX9_period 52 = .ok (.iload_n 2, 1) := by decide +kernel
theorem dX9_period_53 : decode cX9_period 53 = .ok (.laload, 1) := by decide +kernel
theorem dX9_period_54 : decode cX9_period 54 = .ok (.ladd, 1) := by decide +kernel
theorem dX9_period_55 : decode cX9_period 55 = .ok (.lconst 0, 1) := by decide +kernel
theorem dX9_period_56 : decode cX9_period 56 = .ok (.lcmp, 1) := by decide +kernel
theorem dX9_period_57 : decode cX9_period 57 = .ok (.ifCond .le 7, 3) := by decide +kernel
theorem dX9_period_60 : decode cX9_period 60 = .ok (.iload_n 3, 1) := by decide +kernel
theorem dX9_period_61 : decode cX9_period 61 = .ok (.goto 4, 3) := by decide +kernel
theorem dX9_period_64 : decode cX9_period 64 = .ok (.iload_n 1, 1) := by decide +kernel
theorem dX9_period_65 : decode cX9_period 65 = .ok (.istore_n 1, 1) := by decide +kernel
theorem dX9_period_66 : decode cX9_period 66 = .ok (.iinc 2 1, 3) := by decide +kernel
theorem dX9_period_69 : decode cX9_period 69 = .ok (.goto (-59), 3) := by decide +kernel
theorem dX9_period_72 : decode cX9_period 72 = .ok (.iload_n 1, 1) := by decide +kernel
theorem dX9_period_73 : decode cX9_period 73 = .ok (.ifCond .ne 8, 3) := by decide +kernel
theorem dX9_period_76 : decode cX9_period 76 = .ok (.bipush (-9), 2) := by decide +kernel
theorem dX9_period_78 : decode cX9_period 78 = .ok (.goto 4, 3) := by decide +kernel
theorem dX9_period_81 : decode cX9_period 81 = .ok (.iload_n 1, 1) := by decide +kernel
theorem dX9_period_82 : decode cX9_period 82 = .ok (.ireturn, 1) := by decide +kernel
theorem dX9_isFirst_0 : decode cX9_isFirst 0 = .ok (.aload_n 0, 1) := by decide +kernel
theorem dX9_isFirst_1 : decode cX9_isFirst 1 = .ok (.aload_n 0, 1) := by decide +kernel
theorem dX9_isFirst_2 : decode cX9_isFirst 2 = .ok (.getfield 62, 3) := by decide +kernel
theorem dX9_isFirst_5 : decode cX9_isFirst 5 = .ok (.iload_n 1, 1) := by decide +kernel
theorem dX9_isFirst_6 : decode cX9_isFirst 6 = .ok (.iconst 1, 1) := by decide +kernel
theorem dX9_isFirst_7 : decode cX9_isFirst 7 = .ok (.isub, 1) := by decide +kernel
theorem dX9_isFirst_8 : decode cX9_isFirst 8 = .ok (.iaload, 1) := by decide +kernel
theorem dX9_isFirst_9 : decode cX9_isFirst 9 = .ok (.aload_n 0, 1) := by decide +kernel
theorem dX9_isFirst_10 : decode cX9_isFirst 10 = .ok (.getfield 62, 3) := by decide +kernel
theorem dX9_isFirst_13 : decode cX9_isFirst 13 = .ok (.iconst 0, 1) := by decide +kernel
theorem dX9_isFirst_14 : decode cX9_isFirst 14 = .ok (.iaload, 1) := by decide +kernel
theorem dX9_isFirst_15 : decode cX9_isFirst 15 = .ok (.invokevirtual 103, 3) := by decide +kernel
theorem dX9_isFirst_18 : decode cX9_isFirst 18 = .ok (.istore_n 2, 1) := by decide +kernel
theorem dX9_isFirst_19 : decode cX9_isFirst 19 = .ok (.iconst 1, 1) := by decide +kernel
theorem dX9_isFirst_20 : decode cX9_isFirst 20 = .ok (.istore_n 3, 1) := by decide +kernel
theorem dX9_isFirst_21 : decode cX9_isFirst 21 = .ok (.iload_n 3, 1) := by decide +kernel
theorem dX9_isFirst_22 : decode cX9_isFirst 22 = .ok (.iload_n 1, 1) := by decide +kernel
theorem dX9_isFirst_23 : decode cX9_isFirst 23 = .ok (.if_icmp .ge 82, 3) := by decide +kernel
theorem dX9_isFirst_26 : decode cX9_isFirst 26 = .ok (.iload_n 2, 1) := by decide +kernel
theorem dX9_isFirst_27 : decode cX9_isFirst 27 = .ok (.ifCond .eq 78, 3) := by decide +kernel
theorem dX9_isFirst_30 : decode cX9_isFirst 30 = .ok (.iconst 0, 1) := by decide +kernel
theorem dX9_isFirst_31 : decode cX9_isFirst 31 = .ok (.istore 4, 2) := by decide +kernel
theorem dX9_isFirst_33 : decode cX9_isFirst 33 = .ok (.iload 4, 2) := by decide +kernel
theorem dX9_isFirst_35 : decode cX9_isFirst 35 = .ok (.iload_n 1, 1) := by decide +kernel
theorem dX9_isFirst_36 : decode cX9_isFirst 36 = .ok (.if_icmp .ge 30, 3) := by decide +kernel
theorem dX9_isFirst_39 : decode cX9_isFirst 39 = .ok (.aload_n 0, 1) := by decide +kernel
theorem dX9_isFirst_40 : decode cX9_isFirst 40 = .ok (.getfield 62, 3) := by decide +kernel
theorem dX9_isFirst_43 : decode cX9_isFirst 43 = .ok (.iload 4, 2) := by decide +kernel
theorem dX9_isFirst_45 : decode cX9_isFirst 45 = .ok (.iaload, 1) := by decide +kernel
theorem dX9_isFirst_46 : decode cX9_isFirst 46 = .ok (.aload_n 0, 1) := by decide +kernel
theorem dX9_isFirst_47 : decode cX9_isFirst 47 = .ok (.getfield 62, 3) := by decide +kernel
theorem dX9_isFirst_50 : decode cX9_isFirst 50 = .ok (.iload 4, 2) := by decide +kernel
theorem dX9_isFirst_52 : decode cX9_isFirst 52 = .ok (.iload_n 3, 1) := by decide +kernel
theorem dX9_isFirst_53 : decode cX9_isFirst 53 = .ok (.iadd, 1) := by decide +kernel
theorem dX9_isFirst_54 : decode cX9_isFirst 54 = .ok (.iload_n 1, 1) := by decide +kernel
theorem dX9_isFirst_55 : decode cX9_isFirst 55 = .ok (.irem, 1) := by decide +kernel
theorem dX9_isFirst_56 : decode cX9_isFirst 56 = .ok (.iaload, 1) := by decide +kernel
theorem dX9_isFirst_57 : decode cX9_isFirst 57 = .ok (.if_icmp .ne 9, 3) := by decide +kernel
theorem dX9_isFirst_60 : decode cX9_isFirst 60 = .ok (.iinc 4 1, 3) := by decide +kernel
theorem dX9_isFirst_63 : decode cX9_isFirst 63 = .ok (.goto (-30), 3) := by decide +kernel
theorem dX9_isFirst_66 : decode cX9_isFirst 66 = .ok (.iload 4, 2) := by decide +kernel
theorem dX9_isFirst_68 : decode cX9_isFirst 68 = .ok (.iload_n 1, 1) := by decide +kernel
theorem dX9_isFirst_69 : decode cX9_isFirst 69 = .ok (.if_icmp .ge 28, 3) := by decide +kernel
theorem dX9_isFirst_72 : decode cX9_isFirst 72 = .ok (.aload_n 0, 1) := by decide +kernel
theorem dX9_isFirst_73 : decode cX9_isFirst 73 = .ok (.getfield 62, 3) := by decide +kernel
theorem dX9_isFirst_76 : decode cX9_isFirst 76 = .ok (.iload 4, 2) := by decide +kernel
theorem dX9_isFirst_78 : decode cX9_isFirst 78 = .ok (.iaload, 1) := by decide +kernel
theorem dX9_isFirst_79 : decode cX9_isFirst 79 = .ok (.aload_n 0, 1) := by decide +kernel
theorem dX9_isFirst_80 : decode cX9_isFirst 80 = .ok (.getfield 62, 3) := by decide +kernel
theorem dX9_isFirst_83 : decode cX9_isFirst 83 = .ok (.iload 4, 2) := by decide +kernel
theorem dX9_isFirst_85 : decode cX9_isFirst 85 = .ok (.iload_n 3, 1) := by decide +kernel
theorem dX9_isFirst_86 : decode cX9_isFirst 86 = .ok (.iadd, 1) := by decide +kernel
theorem dX9_isFirst_87 : decode cX9_isFirst 87 = .ok (.iload_n 1, 1) := by decide +kernel
theorem dX9_isFirst_88 : decode cX9_isFirst 88 = .ok (.irem, 1) := by decide +kernel
theorem dX9_isFirst_89 : decode cX9_isFirst 89 = .ok (.iaload, 1) := by decide +kernel
theorem dX9_isFirst_90 : decode cX9_isFirst 90 = .ok (.if_icmp .ge 7, 3) := by decide +kernel
theorem dX9_isFirst_93 : decode cX9_isFirst 93 = .ok (.iconst 1, 1) := by decide +kernel
theorem dX9_isFirst_94 : decode cX9_isFirst 94 = .ok (.goto 4, 3) := by decide +kernel
theorem dX9_isFirst_97 : decode cX9_isFirst 97 = .ok (.iconst 0, 1) := by decide +kernel
theorem dX9_isFirst_98 : decode cX9_isFirst 98 = .ok (.istore_n 2, 1) := by decide +kernel
theorem dX9_isFirst_99 : decode cX9_isFirst 99 = .ok (.iinc 3 1, 3) := by decide +kernel
theorem dX9_isFirst_102 : decode cX9_isFirst 102 = .ok (.goto (-81), 3) := by decide +kernel
theorem dX9_isFirst_105 : decode cX9_isFirst 105 = .ok (.iload_n 2, 1) := by decide +kernel
theorem dX9_isFirst_106 : decode cX9_isFirst 106 = .ok (.ireturn, 1) := by decide +kernel
theorem dX9_finds_0 : decode cX9_finds 0 = .ok (.iload_n 2, 1) := by decide +kernel
theorem dX9_finds_1 : decode cX9_finds 1 = .ok (.istore_n 3, 1) := by decide +kernel
theorem dX9_finds_2 : decode cX9_finds 2 = .ok (.iconst 0, 1) := by decide +kernel
theorem dX9_finds_3 : decode cX9_finds 3 = .ok (.istore 4, 2) := by decide +kernel
theorem dX9_finds_5 : decode cX9_finds 5 = .ok (.aload_n 0, 1) := by decide +kernel
theorem dX9_finds_6 : decode cX9_finds 6 = .ok (.getfield 62, 3) := by decide +kernel
theorem dX9_finds_9 : decode cX9_finds 9 = .ok (.iconst 0, 1) := by decide +kernel
theorem dX9_finds_10 : decode cX9_finds 10 = .ok (.iconst (-1), 1) := by decide +kernel
theorem dX9_finds_11 : decode cX9_finds 11 = .ok (.iastore, 1) := by decide +kernel
theorem dX9_finds_12 : decode cX9_finds 12 = .ok (.iload 4, 2) := by decide +kernel
theorem dX9_finds_14 : decode cX9_finds 14 = .ok (.ifCond .lt 115, 3) := by decide +kernel
theorem dX9_finds_17 : decode cX9_finds 17 = .ok (.aload_n 0, 1) := by decide +kernel
theorem dX9_finds_18 : decode cX9_finds 18 = .ok (.getfield 62, 3) := by decide +kernel
theorem dX9_finds_21 : decode cX9_finds 21 = .ok (.iload 4, 2) := by decide +kernel
theorem dX9_finds_23 : decode cX9_finds 23 = .ok (.dup2, 1) := by decide +kernel
theorem dX9_finds_24 : decode cX9_finds 24 = .ok (.iaload, 1) := by decide +kernel
theorem dX9_finds_25 : decode cX9_finds 25 = .ok (.iconst 1, 1) := by decide +kernel
theorem dX9_finds_26 : decode cX9_finds 26 = .ok (.iadd, 1) := by decide +kernel
theorem dX9_finds_27 : decode cX9_finds 27 = .ok (.iastore, 1) := by decide +kernel
theorem dX9_finds_28 : decode cX9_finds 28 = .ok (.aload_n 0, 1) := by decide +kernel
theorem dX9_finds_29 : decode cX9_finds 29 = .ok (.getfield 62, 3) := by decide +kernel
theorem dX9_finds_32 : decode cX9_finds 32 = .ok (.iload 4, 2) := by decide +kernel
theorem dX9_finds_34 : decode cX9_finds 34 = .ok (.iaload, 1) := by decide +kernel
theorem dX9_finds_35 : decode cX9_finds 35 = .ok (.iconst 2, 1) := by decide +kernel
theorem dX9_finds_36 : decode cX9_finds 36 = .ok (.aload_n 0, 1) := by decide +kernel
theorem dX9_finds_37 : decode cX9_finds 37 = .ok (.getfield 7, 3) := by decide +kernel
theorem dX9_finds_40 : decode cX9_finds 40 = .ok (.iconst 1, 1) := by decide +kernel
theorem dX9_finds_41 : decode cX9_finds 41 = .ok (.iaload, 1) := by decide +kernel
theorem dX9_finds_42 : decode cX9_finds 42 = .ok (.imul, 1) := by decide +kernel
theorem dX9_finds_43 : decode cX9_finds 43 = .ok (.if_icmp .ne 9, 3) := by decide +kernel
theorem dX9_finds_46 : decode cX9_finds 46 = .ok (.iinc 4 (-1), 3) := by decide +kernel
theorem dX9_finds_49 : decode cX9_finds 49 = .ok (.goto (-37), 3) := by decide +kernel
theorem dX9_finds_52 : decode cX9_finds 52 = .ok (.iload 4, 2) := by decide +kernel
theorem dX9_finds_54 : decode cX9_finds 54 = .ok (.ifCond .eq 26, 3) := by decide +kernel
theorem dX9_finds_57 : decode cX9_finds 57 = .ok (.aload_n 0, 1) := by decide +kernel
theorem dX9_finds_58 : decode cX9_finds 58 = .ok (.aload_n 0, 1) := by decide +kernel
theorem dX9_finds_59 : decode cX9_finds 59 = .ok (.getfield 62, 3) := by decide +kernel
theorem dX9_finds_62 : decode cX9_finds 62 = .ok (.iload 4, 2) := by decide +kernel
theorem dX9_finds_64 : decode cX9_finds 64 = .ok (.iconst 1, 1) := by decide +kernel
theorem dX9_finds_65 : decode cX9_finds 65 = .ok (.isub, 1) := by decide +kernel
theorem dX9_finds_66 : decode cX9_finds 66 = .ok (.iaload, 1) := by decide +kernel
theorem dX9_finds_67 : decode cX9_finds 67 = .ok (.aload_n 0, 1) := by decide +kernel
theorem dX9_finds_68 : decode cX9_finds 68 = .ok (.getfield 62, 3) := by decide +kernel
theorem dX9_finds_71 : decode cX9_finds 71 = .ok (.iload 4, 2) := by decide +kernel
theorem dX9_finds_73 : decode cX9_finds 73 = .ok (.iaload, 1) := by decide +kernel
theorem dX9_finds_74 : decode cX9_finds 74 = .ok (.invokevirtual 103, 3) := by decide +kernel
theorem dX9_finds_77 : decode cX9_finds 77 = .ok (.ifCond .eq (-65), 3) := by decide +kernel
theorem dX9_finds_80 : decode cX9_finds 80 = .ok (.iload 4, 2) := by decide +kernel
theorem dX9_finds_82 : decode cX9_finds 82 = .ok (.iload_n 1, 1) := by decide +kernel
theorem dX9_finds_83 : decode cX9_finds 83 = .ok (.iconst 1, 1) := by decide +kernel
theorem dX9_finds_84 : decode cX9_finds 84 = .ok (.isub, 1) := by decide +kernel
theorem dX9_finds_85 : decode cX9_finds 85 = .ok (.if_icmp .ge 24, 3) := by decide +kernel
theorem dX9_finds_88 : decode cX9_finds 88 = .ok (.iinc 4 1, 3) := by decide +kernel
theorem dX9_finds_91 : decode cX9_finds 91 = .ok (.aload_n 0, 1) := by decide +kernel
theorem dX9_finds_92 : decode cX9_finds 92 = .ok (.getfield 62, 3) := by decide +kernel
theorem dX9_finds_95 : decode cX9_finds 95 = .ok (.iload 4, 2) := by decide +kernel
theorem dX9_finds_97 : decode cX9_finds 97 = .ok (.aload_n 0, 1) := by decide +kernel
theorem dX9_finds_98 : decode cX9_finds 98 = .ok (.getfield 62, 3) := by decide +kernel
theorem dX9_finds_101 : decode cX9_finds 101 = .ok (.iconst 0, 1) := by decide +kernel
theorem dX9_finds_102 : decode cX9_finds 102 = .ok (.iaload, 1) := by decide +kernel
theorem dX9_finds_103 : decode cX9_finds 103 = .ok (.iconst 1, 1) := by decide +kernel
theorem dX9_finds_104 : decode cX9_finds 104 = .ok (.isub, 1) := by decide +kernel
theorem dX9_finds_105 : decode cX9_finds 105 = .ok (.iastore, 1) := by decide +kernel
theorem dX9_finds_106 : decode cX9_finds 106 = .ok (.goto (-94), 3) := by decide +kernel
theorem dX9_finds_109 : decode cX9_finds 109 = .ok (.aload_n 0, 1) := by decide +kernel
theorem dX9_finds_110 : decode cX9_finds 110 = .ok (.iload_n 1, 1) := by decide +kernel
theorem dX9_finds_111 : decode cX9_finds 111 = .ok (.invokevirtual 159, 3) := by decide +kernel
theorem dX9_finds_114 : decode cX9_finds 114 = .ok (.ifCond .eq (-102), 3) := by decide +kernel
theorem dX9_finds_117 : decode cX9_finds 117 = .ok (.iload_n 3, 1) := by decide +kernel
theorem dX9_finds_118 : decode cX9_finds 118 = .ok (.ifCond .ne 5, 3) := by decide +kernel
theorem dX9_finds_121 : decode cX9_finds 121 = .ok (.iconst 1, 1) := by decide +kernel
theorem dX9_finds_122 : decode cX9_finds 122 = .ok (.ireturn, 1) := by decide +kernel
theorem dX9_finds_123 : decode cX9_finds 123 = .ok (.iinc 3 (-1), 3) := by decide +kernel
theorem dX9_finds_126 : decode cX9_finds 126 = .ok (.goto (-114), 3) := by decide +kernel
theorem dX9_finds_129 : decode cX9_finds 129 = .ok (.iconst 0, 1) := by decide +kernel
theorem dX9_finds_130 : decode cX9_finds 130 = .ok (.ireturn, 1) := by decide +kernel
theorem dX9_primeEdge_0 : decode cX9_primeEdge 0 = .ok (.iload_n 1, 1) := by decide +kernel
theorem dX9_primeEdge_1 : decode cX9_primeEdge 1 = .ok (.iconst 1, 1) := by decide +kernel
theorem dX9_primeEdge_2 : decode cX9_primeEdge 2 = .ok (.iconst 5, 1) := by decide +kernel
theorem dX9_primeEdge_3 : decode cX9_primeEdge 3 = .ok (.invokestatic 65, 3) := by decide +kernel
theorem dX9_primeEdge_6 : decode cX9_primeEdge 6 = .ok (.ifCond .eq 18, 3) := by decide +kernel
theorem dX9_primeEdge_9 : decode cX9_primeEdge 9 = .ok (.iload_n 2, 1) := by decide +kernel
theorem dX9_primeEdge_10 : decode cX9_primeEdge 10 = .ok (.ifCond .lt 14, 3) := by decide +kernel
theorem dX9_primeEdge_13 : decode cX9_primeEdge 13 = .ok (.iload_n 3, 1) := by decide +kernel
theorem dX9_primeEdge_14 : decode cX9_primeEdge 14 = .ok (.iconst 0, 1) := by decide +kernel
theorem dX9_primeEdge_15 : decode cX9_primeEdge 15 = .ok (.iload_n 1, 1) := by decide +kernel
theorem dX9_primeEdge_16 : decode cX9_primeEdge 16 = .ok (.iconst 1, 1) := by decide +kernel
theorem dX9_primeEdge_17 : decode cX9_primeEdge 17 = .ok (.isub, 1) := by decide +kernel
theorem dX9_primeEdge_18 : decode cX9_primeEdge 18 = .ok (.invokestatic 65, 3) := by decide +kernel
theorem dX9_primeEdge_21 : decode cX9_primeEdge 21 = .ok (.ifCond .ne 5, 3) := by decide +kernel
theorem dX9_primeEdge_24 : decode cX9_primeEdge 24 = .ok (.iconst (-1), 1) := by decide +kernel
theorem dX9_primeEdge_25 : decode cX9_primeEdge 25 = .ok (.ireturn, 1) := by decide +kernel
theorem dX9_primeEdge_26 : decode cX9_primeEdge 26 = .ok (.aload_n 0, 1) := by decide +kernel
theorem dX9_primeEdge_27 : decode cX9_primeEdge 27 = .ok (.iload_n 1, 1) := by decide +kernel
theorem dX9_primeEdge_28 : decode cX9_primeEdge 28 = .ok (.iload_n 2, 1) := by decide +kernel
theorem dX9_primeEdge_29 : decode cX9_primeEdge 29 = .ok (.invokevirtual 162, 3) := by decide +kernel
theorem dX9_primeEdge_32 : decode cX9_primeEdge 32 = .ok (.ifCond .eq 12, 3) := by decide +kernel
theorem dX9_primeEdge_35 : decode cX9_primeEdge 35 = .ok (.aload_n 0, 1) := by decide +kernel
theorem dX9_primeEdge_36 : decode cX9_primeEdge 36 = .ok (.getfield 62, 3) := by decide +kernel
theorem dX9_primeEdge_39 : decode cX9_primeEdge 39 = .ok (.iload_n 3, 1) := by decide +kernel
theorem dX9_primeEdge_40 : decode cX9_primeEdge 40 = .ok (.iaload, 1) := by decide +kernel
theorem dX9_primeEdge_41 : decode cX9_primeEdge 41 = .ok (.goto 5, 3) := by decide +kernel
theorem dX9_primeEdge_44 : decode cX9_primeEdge 44 = .ok (.bipush (-9), 2) := by decide +kernel
theorem dX9_primeEdge_46 : decode cX9_primeEdge 46 = .ok (.ireturn, 1) := by decide +kernel
theorem dX9_primeSign_0 : decode cX9_primeSign 0 = .ok (.iload_n 1, 1) := by decide +kernel
theorem dX9_primeSign_1 : decode cX9_primeSign 1 = .ok (.iconst 1, 1) := by decide +kernel
theorem dX9_primeSign_2 : decode cX9_primeSign 2 = .ok (.iconst 5, 1) := by decide +kernel
theorem dX9_primeSign_3 : decode cX9_primeSign 3 = .ok (.invokestatic 65, 3) := by decide +kernel
theorem dX9_primeSign_6 : decode cX9_primeSign 6 = .ok (.ifCond .eq 16, 3) := by decide +kernel
theorem dX9_primeSign_9 : decode cX9_primeSign 9 = .ok (.iload_n 2, 1) := by decide +kernel
theorem dX9_primeSign_10 : decode cX9_primeSign 10 = .ok (.ifCond .lt 12, 3) := by decide +kernel
theorem dX9_primeSign_13 : decode cX9_primeSign 13 = .ok (.aload_n 0, 1) := by decide +kernel
theorem dX9_primeSign_14 : decode cX9_primeSign 14 = .ok (.iload_n 1, 1) := by decide +kernel
theorem dX9_primeSign_15 : decode cX9_primeSign 15 = .ok (.iload_n 2, 1) := by decide +kernel
theorem dX9_primeSign_16 : decode cX9_primeSign 16 = .ok (.invokevirtual 162, 3) := by decide +kernel
theorem dX9_primeSign_19 : decode cX9_primeSign 19 = .ok (.ifCond .ne 5, 3) := by decide +kernel
theorem dX9_primeSign_22 : decode cX9_primeSign 22 = .ok (.iconst 0, 1) := by decide +kernel
theorem dX9_primeSign_23 : decode cX9_primeSign 23 = .ok (.ireturn, 1) := by decide +kernel
theorem dX9_primeSign_24 : decode cX9_primeSign 24 = .ok (.iconst 1, 1) := by decide +kernel
theorem dX9_primeSign_25 : decode cX9_primeSign 25 = .ok (.istore_n 3, 1) := by decide +kernel
theorem dX9_primeSign_26 : decode cX9_primeSign 26 = .ok (.iconst 0, 1) := by decide +kernel
theorem dX9_primeSign_27 : decode cX9_primeSign 27 = .ok (.istore 4, 2) := by decide +kernel
theorem dX9_primeSign_29 : decode cX9_primeSign 29 = .ok (.iload 4, 2) := by decide +kernel
theorem dX9_primeSign_31 : decode cX9_primeSign 31 = .ok (.iload_n 1, 1) := by decide +kernel
theorem dX9_primeSign_32 : decode cX9_primeSign 32 = .ok (.if_icmp .ge 23, 3) := by decide +kernel
theorem dX9_primeSign_35 : decode cX9_primeSign 35 = .ok (.iload_n 3, 1) := by decide +kernel
theorem dX9_primeSign_36 : decode cX9_primeSign 36 = .ok (.aload_n 0, 1) := by decide +kernel
theorem dX9_primeSign_37 : decode cX9_primeSign 37 = .ok (.aload_n 0, 1) := by decide +kernel
theorem dX9_primeSign_38 : decode cX9_primeSign 38 = .ok (.getfield 62, 3) := by decide +kernel
theorem dX9_primeSign_41 : decode cX9_primeSign 41 = .ok (.iload 4, 2) := by decide +kernel
theorem dX9_primeSign_43 : decode cX9_primeSign 43 = .ok (.iaload, 1) := by decide +kernel
theorem dX9_primeSign_44 : decode cX9_primeSign 44 = .ok (.invokevirtual 114, 3) := by decide +kernel
theorem dX9_primeSign_47 : decode cX9_primeSign 47 = .ok (.imul, 1) := by decide +kernel
theorem dX9_primeSign_48 : decode cX9_primeSign 48 = .ok (.istore_n 3, 1) := by decide +kernel
theorem dX9_primeSign_49 : decode cX9_primeSign 49 = .ok (.iinc 4 1, 3) := by decide +kernel
theorem dX9_primeSign_52 : decode cX9_primeSign 52 = .ok (.goto (-23), 3) := by decide +kernel
theorem dX9_primeSign_55 : decode cX9_primeSign 55 = .ok (.iload_n 3, 1) := by decide +kernel
theorem dX9_primeSign_56 : decode cX9_primeSign 56 = .ok (.ireturn, 1) := by decide +kernel
theorem dX9_edgeCoefficient_0 : decode cX9_edgeCoefficient 0 = .ok (.iload_n 1, 1) := by decide +kernel
theorem dX9_edgeCoefficient_1 : decode cX9_edgeCoefficient 1 = .ok (.iconst 0, 1) := by decide +kernel
theorem dX9_edgeCoefficient_2 : decode cX9_edgeCoefficient 2 = .ok (.bipush 18, 2) := by decide +kernel
theorem dX9_edgeCoefficient_4 : decode cX9_edgeCoefficient 4 = .ok (.invokestatic 65, 3) := by decide +kernel
theorem dX9_edgeCoefficient_7 : decode cX9_edgeCoefficient 7 = .ok (.ifCond .ne 7, 3) := by decide +kernel
theorem dX9_edgeCoefficient_10 : decode cX9_edgeCoefficient 10 = .ok (.ldc2_w 152, 3) := by decide +kernel
theorem dX9_edgeCoefficient_13 : decode cX9_edgeCoefficient 13 = .ok (.lreturn, 1) := by decide +kernel
theorem dX9_edgeCoefficient_14 : decode cX9_edgeCoefficient 14 = .ok (.aload_n 0, 1) := by decide +kernel
theorem dX9_edgeCoefficient_15 : decode cX9_edgeCoefficient 15 = .ok (.invokevirtual 165, 3) := by decide +kernel
theorem dX9_edgeCoefficient_18 : decode cX9_edgeCoefficient 18 = .ok (.aload_n 0, 1) := by decide +kernel
theorem dX9_edgeCoefficient_19 : decode cX9_edgeCoefficient 19 = .ok (.getfield 35, 3) := by decide +kernel
theorem dX9_edgeCoefficient_22 : decode cX9_edgeCoefficient 22 = .ok (.iload_n 1, 1) := by decide +kernel
theorem dX9_edgeCoefficient_23 : decode cX9_edgeCoefficient 23 = .ok (.laload, 1) := by decide +kernel
theorem dX9_edgeCoefficient_24 : decode cX9_edgeCoefficient 24 = .ok (.lreturn, 1) := by decide +kernel
theorem dX9_signedCoefficient_0 : decode cX9_signedCoefficient 0 = .ok (.iload_n 1, 1) := by decide +kernel
theorem dX9_signedCoefficient_1 : decode cX9_signedCoefficient 1 = .ok (.iconst 0, 1) := by decide +kernel
theorem dX9_signedCoefficient_2 : decode cX9_signedCoefficient 2 = .ok (.bipush 18, 2) := by decide +kernel
theorem dX9_signedCoefficient_4 : decode cX9_signedCoefficient 4 = .ok (.invokestatic 65, 3) := by decide +kernel
theorem dX9_signedCoefficient_7 : decode cX9_signedCoefficient 7 = .ok (.ifCond .ne 7, 3) := by decide +kernel
theorem dX9_signedCoefficient_10 : decode cX9_signedCoefficient 10 = .ok (.ldc2_w 152, 3) := by decide +kernel
theorem dX9_signedCoefficient_13 : decode cX9_signedCoefficient 13 = .ok (.lreturn, 1) := by decide +kernel
theorem dX9_signedCoefficient_14 : decode cX9_signedCoefficient 14 = .ok (.aload_n 0, 1) := by decide +kernel
theorem dX9_signedCoefficient_15 : decode cX9_signedCoefficient 15 = .ok (.iconst 1, 1) := by decide +kernel
theorem dX9_signedCoefficient_16 : decode cX9_signedCoefficient 16 = .ok (.invokevirtual 128, 3) := by decide +kernel
theorem dX9_signedCoefficient_19 : decode cX9_signedCoefficient 19 = .ok (.aload_n 0, 1) := by decide +kernel
theorem dX9_signedCoefficient_20 : decode cX9_signedCoefficient 20 = .ok (.invokevirtual 132, 3) := by decide +kernel
theorem dX9_signedCoefficient_23 : decode cX9_signedCoefficient 23 = .ok (.aload_n 0, 1) := by decide +kernel
theorem dX9_signedCoefficient_24 : decode cX9_signedCoefficient 24 = .ok (.getfield 35, 3) := by decide +kernel
theorem dX9_signedCoefficient_27 : decode cX9_signedCoefficient 27 = .ok (.iload_n 1, 1) := by decide +kernel
theorem dX9_signedCoefficient_28 : decode cX9_signedCoefficient 28 = .ok (.laload, 1) := by decide +kernel
theorem dX9_signedCoefficient_29 : decode cX9_signedCoefficient 29 = .ok (.lreturn, 1) := by decide +kernel
theorem dX9_vertexCoefficient_0 : decode cX9_vertexCoefficient 0 = .ok (.iload_n 1, 1) := by decide +kernel
theorem dX9_vertexCoefficient_1 : decode cX9_vertexCoefficient 1 = .ok (.iconst 0, 1) := by decide +kernel
theorem dX9_vertexCoefficient_2 : decode cX9_vertexCoefficient 2 = .ok (.bipush 12, 2) := by decide +kernel
theorem dX9_vertexCoefficient_4 : decode cX9_vertexCoefficient 4 = .ok (.invokestatic 65, 3) := by decide +kernel
theorem dX9_vertexCoefficient_7 : decode cX9_vertexCoefficient 7 = .ok (.ifCond .ne 7, 3) := by decide +kernel
theorem dX9_vertexCoefficient_10 : decode cX9_vertexCoefficient 10 = .ok (.ldc2_w 152, 3) := by decide +kernel
theorem dX9_vertexCoefficient_13 : decode cX9_vertexCoefficient 13 = .ok (.lreturn, 1) := by decide +kernel
theorem dX9_vertexCoefficient_14 : decode cX9_vertexCoefficient 14 = .ok (.aload_n 0, 1) := by decide +kernel
theorem dX9_vertexCoefficient_15 : decode cX9_vertexCoefficient 15 = .ok (.invokevirtual 135, 3) := by decide +kernel
theorem dX9_vertexCoefficient_18 : decode cX9_vertexCoefficient 18 = .ok (.aload_n 0, 1) := by decide +kernel
theorem dX9_vertexCoefficient_19 : decode cX9_vertexCoefficient 19 = .ok (.invokevirtual 132, 3) := by decide +kernel
theorem dX9_vertexCoefficient_22 : decode cX9_vertexCoefficient 22 = .ok (.aload_n 0, 1) := by decide +kernel
theorem dX9_vertexCoefficient_23 : decode cX9_vertexCoefficient 23 = .ok (.getfield 35, 3) := by decide +kernel
theorem dX9_vertexCoefficient_26 : decode cX9_vertexCoefficient 26 = .ok (.iload_n 1, 1) := by decide +kernel
theorem dX9_vertexCoefficient_27 : decode cX9_vertexCoefficient 27 = .ok (.laload, 1) := by decide +kernel
theorem dX9_vertexCoefficient_28 : decode cX9_vertexCoefficient 28 = .ok (.lreturn, 1) := by decide +kernel
theorem dX9_bassCoefficient_0 : decode cX9_bassCoefficient 0 = .ok (.iload_n 1, 1) := by decide +kernel
theorem dX9_bassCoefficient_1 : decode cX9_bassCoefficient 1 = .ok (.iconst 0, 1) := by decide +kernel
theorem dX9_bassCoefficient_2 : decode cX9_bassCoefficient 2 = .ok (.bipush 18, 2) := by decide +kernel
theorem dX9_bassCoefficient_4 : decode cX9_bassCoefficient 4 = .ok (.invokestatic 65, 3) := by decide +kernel
theorem dX9_bassCoefficient_7 : decode cX9_bassCoefficient 7 = .ok (.ifCond .ne 7, 3) := by decide +kernel
theorem dX9_bassCoefficient_10 : decode cX9_bassCoefficient 10 = .ok (.ldc2_w 152, 3) := by decide +kernel
theorem dX9_bassCoefficient_13 : decode cX9_bassCoefficient 13 = .ok (.lreturn, 1) := by decide +kernel
theorem dX9_bassCoefficient_14 : decode cX9_bassCoefficient 14 = .ok (.aload_n 0, 1) := by decide +kernel
theorem dX9_bassCoefficient_15 : decode cX9_bassCoefficient 15 = .ok (.invokevirtual 168, 3) := by decide +kernel
theorem dX9_bassCoefficient_18 : decode cX9_bassCoefficient 18 = .ok (.aload_n 0, 1) := by decide +kernel
theorem dX9_bassCoefficient_19 : decode cX9_bassCoefficient 19 = .ok (.getfield 35, 3) := by decide +kernel
theorem dX9_bassCoefficient_22 : decode cX9_bassCoefficient 22 = .ok (.iload_n 1, 1) := by decide +kernel
theorem dX9_bassCoefficient_23 : decode cX9_bassCoefficient 23 = .ok (.laload, 1) := by decide +kernel
theorem dX9_bassCoefficient_24 : decode cX9_bassCoefficient 24 = .ok (.lreturn, 1) := by decide +kernel
theorem dX9_zetaCoefficient_0 : decode cX9_zetaCoefficient 0 = .ok (.iload_n 1, 1) := by decide +kernel
theorem dX9_zetaCoefficient_1 : decode cX9_zetaCoefficient 1 = .ok (.iconst 0, 1) := by decide +kernel
theorem dX9_zetaCoefficient_2 : decode cX9_zetaCoefficient 2 = .ok (.bipush 12, 2) := by decide +kernel
theorem dX9_zetaCoefficient_4 : decode cX9_zetaCoefficient 4 = .ok (.invokestatic 65, 3) := by decide +kernel
theorem dX9_zetaCoefficient_7 : decode cX9_zetaCoefficient 7 = .ok (.ifCond .ne 7, 3) := by decide +kernel
theorem dX9_zetaCoefficient_10 : decode cX9_zetaCoefficient 10 = .ok (.ldc2_w 152, 3) := by decide +kernel
theorem dX9_zetaCoefficient_13 : decode cX9_zetaCoefficient 13 = .ok (.lreturn, 1) := by decide +kernel
theorem dX9_zetaCoefficient_14 : decode cX9_zetaCoefficient 14 = .ok (.aload_n 0, 1) := by decide +kernel
theorem dX9_zetaCoefficient_15 : decode cX9_zetaCoefficient 15 = .ok (.invokevirtual 165, 3) := by decide +kernel
theorem dX9_zetaCoefficient_18 : decode cX9_zetaCoefficient 18 = .ok (.iconst 0, 1) := by decide +kernel
theorem dX9_zetaCoefficient_19 : decode cX9_zetaCoefficient 19 = .ok (.istore_n 2, 1) := by decide +kernel
theorem dX9_zetaCoefficient_20 : decode cX9_zetaCoefficient 20 = .ok (.iload_n 2, 1) := by decide +kernel
theorem dX9_zetaCoefficient_21 : decode cX9_zetaCoefficient 21 = .ok (.iload_n 1, 1) := by decide +kernel
theorem dX9_zetaCoefficient_22 : decode cX9_zetaCoefficient 22 = .ok (.if_icmp .gt 61, 3) := by decide +kernel
theorem dX9_zetaCoefficient_25 : decode cX9_zetaCoefficient 25 = .ok (.aload_n 0, 1) := by decide +kernel
theorem dX9_zetaCoefficient_26 : decode cX9_zetaCoefficient 26 = .ok (.getfield 38, 3) := by decide +kernel
theorem dX9_zetaCoefficient_29 : decode cX9_zetaCoefficient 29 = .ok (.iload_n 2, 1) := by decide +kernel
theorem dX9_zetaCoefficient_30 : decode cX9_zetaCoefficient 30 = .ok (.iload_n 2, 1) := by decide +kernel
theorem dX9_zetaCoefficient_31 : decode cX9_zetaCoefficient 31 = .ok (.ifCond .ne 7, 3) := by decide +kernel
theorem dX9_zetaCoefficient_34 : decode cX9_zetaCoefficient 34 = .ok (.lconst 1, 1) := by decide +kernel
theorem dX9_zetaCoefficient_35 : decode cX9_zetaCoefficient 35 = .ok (.goto 4, 3) := by decide +kernel
theorem dX9_zetaCoefficient_38 : decode cX9_zetaCoefficient 38 = .ok (.lconst 0, 1) := by decide +kernel
theorem dX9_zetaCoefficient_39 : decode cX9_zetaCoefficient 39 = .ok (.lastore, 1) := by decide +kernel
theorem dX9_zetaCoefficient_40 : decode cX9_zetaCoefficient 40 = .ok (.iconst 1, 1) := by decide +kernel
theorem dX9_zetaCoefficient_41 : decode cX9_zetaCoefficient 41 = .ok (.istore_n 3, 1) := by decide +kernel
theorem dX9_zetaCoefficient_42 : decode cX9_zetaCoefficient 42 = .ok (.iload_n 3, 1) := by decide +kernel
theorem dX9_zetaCoefficient_43 : decode cX9_zetaCoefficient 43 = .ok (.iload_n 2, 1) := by decide +kernel
theorem dX9_zetaCoefficient_44 : decode cX9_zetaCoefficient 44 = .ok (.if_icmp .gt 33, 3) := by decide +kernel
theorem dX9_zetaCoefficient_47 : decode cX9_zetaCoefficient 47 = .ok (.aload_n 0, 1) := by decide +kernel
theorem dX9_zetaCoefficient_48 : decode cX9_zetaCoefficient 48 = .ok (.getfield 38, 3) := by decide +kernel
theorem dX9_zetaCoefficient_51 : decode cX9_zetaCoefficient 51 = .ok (.iload_n 2, 1) := by decide +kernel
theorem dX9_zetaCoefficient_52 : decode cX9_zetaCoefficient 52 = .ok (.dup2, 1) := by decide +kernel
theorem dX9_zetaCoefficient_53 : decode cX9_zetaCoefficient 53 = .ok (.laload, 1) := by decide +kernel
theorem dX9_zetaCoefficient_54 : decode cX9_zetaCoefficient 54 = .ok (.aload_n 0, 1) := by decide +kernel
theorem dX9_zetaCoefficient_55 : decode cX9_zetaCoefficient 55 = .ok (.getfield 35, 3) := by decide +kernel
theorem dX9_zetaCoefficient_58 : decode cX9_zetaCoefficient 58 = .ok (.iload_n 3, 1) := by decide +kernel
theorem dX9_zetaCoefficient_59 : decode cX9_zetaCoefficient 59 = .ok (.laload, 1) := by decide +kernel
theorem dX9_zetaCoefficient_60 : decode cX9_zetaCoefficient 60 = .ok (.aload_n 0, 1) := by decide +kernel
theorem dX9_zetaCoefficient_61 : decode cX9_zetaCoefficient 61 = .ok (.getfield 38, 3) := by decide +kernel
theorem dX9_zetaCoefficient_64 : decode cX9_zetaCoefficient 64 = .ok (.iload_n 2, 1) := by decide +kernel
theorem dX9_zetaCoefficient_65 : decode cX9_zetaCoefficient 65 = .ok (.iload_n 3, 1) := by decide +kernel
theorem dX9_zetaCoefficient_66 : decode cX9_zetaCoefficient 66 = .ok (.isub, 1) := by decide +kernel
theorem dX9_zetaCoefficient_67 : decode cX9_zetaCoefficient 67 = .ok (.laload, 1) := by decide +kernel
theorem dX9_zetaCoefficient_68 : decode cX9_zetaCoefficient 68 = .ok (.lmul, 1) := by decide +kernel
theorem dX9_zetaCoefficient_69 : decode cX9_zetaCoefficient 69 = .ok (.lsub, 1) := by decide +kernel
theorem dX9_zetaCoefficient_70 : decode cX9_zetaCoefficient 70 = .ok (.lastore, 1) := by decide +kernel
theorem dX9_zetaCoefficient_71 : decode cX9_zetaCoefficient 71 = .ok (.iinc 3 1, 3) := by decide +kernel
theorem dX9_zetaCoefficient_74 : decode cX9_zetaCoefficient 74 = .ok (.goto (-32), 3) := by decide +kernel
theorem dX9_zetaCoefficient_77 : decode cX9_zetaCoefficient 77 = .ok (.iinc 2 1, 3) := by decide +kernel
theorem dX9_zetaCoefficient_80 : decode cX9_zetaCoefficient 80 = .ok (.goto (-60), 3) := by decide +kernel
theorem dX9_zetaCoefficient_83 : decode cX9_zetaCoefficient 83 = .ok (.aload_n 0, 1) := by decide +kernel
theorem dX9_zetaCoefficient_84 : decode cX9_zetaCoefficient 84 = .ok (.getfield 38, 3) := by decide +kernel
theorem dX9_zetaCoefficient_87 : decode cX9_zetaCoefficient 87 = .ok (.iload_n 1, 1) := by decide +kernel
theorem dX9_zetaCoefficient_88 : decode cX9_zetaCoefficient 88 = .ok (.laload, 1) := by decide +kernel
theorem dX9_zetaCoefficient_89 : decode cX9_zetaCoefficient 89 = .ok (.lreturn, 1) := by decide +kernel
theorem dX9_edgeValue_0 : decode cX9_edgeValue 0 = .ok (.iload_n 1, 1) := by decide +kernel
theorem dX9_edgeValue_1 : decode cX9_edgeValue 1 = .ok (.bipush (-2), 2) := by decide +kernel
theorem dX9_edgeValue_3 : decode cX9_edgeValue 3 = .ok (.iconst 2, 1) := by decide +kernel
theorem dX9_edgeValue_4 : decode cX9_edgeValue 4 = .ok (.invokestatic 65, 3) := by decide +kernel
theorem dX9_edgeValue_7 : decode cX9_edgeValue 7 = .ok (.ifCond .ne 7, 3) := by decide +kernel
theorem dX9_edgeValue_10 : decode cX9_edgeValue 10 = .ok (.ldc2_w 152, 3) := by decide +kernel
theorem dX9_edgeValue_13 : decode cX9_edgeValue 13 = .ok (.lreturn, 1) := by decide +kernel
theorem dX9_edgeValue_14 : decode cX9_edgeValue 14 = .ok (.aload_n 0, 1) := by decide +kernel
theorem dX9_edgeValue_15 : decode cX9_edgeValue 15 = .ok (.invokevirtual 165, 3) := by decide +kernel
theorem dX9_edgeValue_18 : decode cX9_edgeValue 18 = .ok (.lconst 0, 1) := by decide +kernel
theorem dX9_edgeValue_19 : decode cX9_edgeValue 19 = .ok (.lstore_n 2, 1) := by decide +kernel
theorem dX9_edgeValue_20 : decode cX9_edgeValue 20 = .ok (.bipush 18, 2) := by decide +kernel
theorem dX9_edgeValue_22 : decode cX9_edgeValue 22 = .ok (.istore 4, 2) := by decide +kernel
theorem dX9_edgeValue_24 : decode cX9_edgeValue 24 = .ok (.iload 4, 2) := by decide +kernel
theorem dX9_edgeValue_26 : decode cX9_edgeValue 26 = .ok (.ifCond .lt 22, 3) := by decide +kernel
theorem dX9_edgeValue_29 : decode cX9_edgeValue 29 = .ok (.lload_n 2, 1) := by decide +kernel
theorem dX9_edgeValue_30 : decode cX9_edgeValue 30 = .ok (.iload_n 1, 1) := by decide +kernel
theorem dX9_edgeValue_31 : decode cX9_edgeValue 31 = .ok (.i2l, 1) := by decide +kernel
theorem dX9_edgeValue_32 : decode cX9_edgeValue 32 = .ok (.lmul, 1) := by decide +kernel
theorem dX9_edgeValue_33 : decode cX9_edgeValue 33 = .ok (.aload_n 0, 1) := by decide +kernel
theorem dX9_edgeValue_34 : decode cX9_edgeValue 34 = .ok (.getfield 35, 3) := by decide +kernel
theorem dX9_edgeValue_37 : decode cX9_edgeValue 37 = .ok (.iload 4, 2) := by decide +kernel
theorem dX9_edgeValue_39 : decode cX9_edgeValue 39 = .ok (.laload, 1) := by decide +kernel
theorem dX9_edgeValue_40 : decode cX9_edgeValue 40 = .ok (.ladd, 1) := by decide +kernel
theorem dX9_edgeValue_41 : decode cX9_edgeValue 41 = .ok (.lstore_n 2, 1) := by decide +kernel
theorem dX9_edgeValue_42 : decode cX9_edgeValue 42 = .ok (.iinc 4 (-1), 3) := by decide +kernel
theorem dX9_edgeValue_45 : decode cX9_edgeValue 45 = .ok (.goto (-21), 3) := by decide +kernel
theorem dX9_edgeValue_48 : decode cX9_edgeValue 48 = .ok (.lload_n 2, 1) := by decide +kernel
theorem dX9_edgeValue_49 : decode cX9_edgeValue 49 = .ok (.lreturn, 1) := by decide +kernel
theorem dX9_taylorAtOne_0 : decode cX9_taylorAtOne 0 = .ok (.iload_n 1, 1) := by decide +kernel
theorem dX9_taylorAtOne_1 : decode cX9_taylorAtOne 1 = .ok (.iconst 0, 1) := by decide +kernel
theorem dX9_taylorAtOne_2 : decode cX9_taylorAtOne 2 = .ok (.bipush 18, 2) := by decide +kernel
theorem dX9_taylorAtOne_4 : decode cX9_taylorAtOne 4 = .ok (.invokestatic 65, 3) := by decide +kernel
theorem dX9_taylorAtOne_7 : decode cX9_taylorAtOne 7 = .ok (.ifCond .ne 7, 3) := by decide +kernel
theorem dX9_taylorAtOne_10 : decode cX9_taylorAtOne 10 = .ok (.ldc2_w 152, 3) := by decide +kernel
theorem dX9_taylorAtOne_13 : decode cX9_taylorAtOne 13 = .ok (.lreturn, 1) := by decide +kernel
theorem dX9_taylorAtOne_14 : decode cX9_taylorAtOne 14 = .ok (.aload_n 0, 1) := by decide +kernel
theorem dX9_taylorAtOne_15 : decode cX9_taylorAtOne 15 = .ok (.invokevirtual 165, 3) := by decide +kernel
theorem dX9_taylorAtOne_18 : decode cX9_taylorAtOne 18 = .ok (.iconst 0, 1) := by decide +kernel
theorem dX9_taylorAtOne_19 : decode cX9_taylorAtOne 19 = .ok (.istore_n 2, 1) := by decide +kernel
theorem dX9_taylorAtOne_20 : decode cX9_taylorAtOne 20 = .ok (.iload_n 2, 1) := by decide +kernel
theorem dX9_taylorAtOne_21 : decode cX9_taylorAtOne 21 = .ok (.iload_n 1, 1) := by decide +kernel
theorem dX9_taylorAtOne_22 : decode cX9_taylorAtOne 22 = .ok (.if_icmp .gt 40, 3) := by decide +kernel
theorem dX9_taylorAtOne_25 : decode cX9_taylorAtOne 25 = .ok (.bipush 17, 2) := by decide +kernel
theorem dX9_taylorAtOne_27 : decode cX9_taylorAtOne 27 = .ok (.istore_n 3, 1) := by decide +kernel
theorem dX9_taylorAtOne_28 : decode cX9_taylorAtOne 28 = .ok (.iload_n 3, 1) := by decide +kernel
theorem dX9_taylorAtOne_29 : decode cX9_taylorAtOne 29 = .ok (.iload_n 2, 1) := by decide +kernel
theorem dX9_taylorAtOne_30 : decode cX9_taylorAtOne 30 = .ok (.if_icmp .lt 26, 3) := by decide +kernel
theorem dX9_taylorAtOne_33 : decode cX9_taylorAtOne 33 = .ok (.aload_n 0, 1) := by decide +kernel
theorem dX9_taylorAtOne_34 : decode cX9_taylorAtOne 34 = .ok (.getfield 35, 3) := by decide +kernel
theorem dX9_taylorAtOne_37 : decode cX9_taylorAtOne 37 = .ok (.iload_n 3, 1) := by decide +kernel
theorem dX9_taylorAtOne_38 : decode cX9_taylorAtOne 38 = .ok (.dup2, 1) := by decide +kernel
theorem dX9_taylorAtOne_39 : decode cX9_taylorAtOne 39 = .ok (.laload, 1) := by decide +kernel
theorem dX9_taylorAtOne_40 : decode cX9_taylorAtOne 40 = .ok (.aload_n 0, 1) := by decide +kernel
theorem dX9_taylorAtOne_41 : decode cX9_taylorAtOne 41 = .ok (.getfield 35, 3) := by decide +kernel
theorem dX9_taylorAtOne_44 : decode cX9_taylorAtOne 44 = .ok (.iload_n 3, 1) := by decide +kernel
theorem dX9_taylorAtOne_45 : decode cX9_taylorAtOne 45 = .ok (.iconst 1, 1) := by decide +kernel
theorem dX9_taylorAtOne_46 : decode cX9_taylorAtOne 46 = .ok (.iadd, 1) := by decide +kernel
theorem dX9_taylorAtOne_47 : decode cX9_taylorAtOne 47 = .ok (.laload, 1) := by decide +kernel
theorem dX9_taylorAtOne_48 : decode cX9_taylorAtOne 48 = .ok (.ladd, 1) := by decide +kernel
theorem dX9_taylorAtOne_49 : decode cX9_taylorAtOne 49 = .ok (.lastore, 1) := by decide +kernel
theorem dX9_taylorAtOne_50 : decode cX9_taylorAtOne 50 = .ok (.iinc 3 (-1), 3) := by decide +kernel
theorem dX9_taylorAtOne_53 : decode cX9_taylorAtOne 53 = .ok (.goto (-25), 3) := by decide +kernel
theorem dX9_taylorAtOne_56 : decode cX9_taylorAtOne 56 = .ok (.iinc 2 1, 3) := by decide +kernel
theorem dX9_taylorAtOne_59 : decode cX9_taylorAtOne 59 = .ok (.goto (-39), 3) := by decide +kernel
theorem dX9_taylorAtOne_62 : decode cX9_taylorAtOne 62 = .ok (.aload_n 0, 1) := by decide +kernel
theorem dX9_taylorAtOne_63 : decode cX9_taylorAtOne 63 = .ok (.getfield 35, 3) := by decide +kernel
theorem dX9_taylorAtOne_66 : decode cX9_taylorAtOne 66 = .ok (.iload_n 1, 1) := by decide +kernel
theorem dX9_taylorAtOne_67 : decode cX9_taylorAtOne 67 = .ok (.laload, 1) := by decide +kernel
theorem dX9_taylorAtOne_68 : decode cX9_taylorAtOne 68 = .ok (.lreturn, 1) := by decide +kernel
theorem dX9_edgeDegree_0 : decode cX9_edgeDegree 0 = .ok (.aload_n 0, 1) := by decide +kernel
theorem dX9_edgeDegree_1 : decode cX9_edgeDegree 1 = .ok (.invokevirtual 165, 3) := by decide +kernel
theorem dX9_edgeDegree_4 : decode cX9_edgeDegree 4 = .ok (.bipush 18, 2) := by decide +kernel
theorem dX9_edgeDegree_6 : decode cX9_edgeDegree 6 = .ok (.istore_n 1, 1) := by decide +kernel
theorem dX9_edgeDegree_7 : decode cX9_edgeDegree 7 = .ok (.aload_n 0, 1) := by decide +kernel
theorem dX9_edgeDegree_8 : decode cX9_edgeDegree 8 = .ok (.getfield 35, 3) := by decide +kernel
theorem dX9_edgeDegree_11 : decode cX9_edgeDegree 11 = .ok (.iload_n 1, 1) := by decide +kernel
theorem dX9_edgeDegree_12 : decode cX9_edgeDegree 12 = .ok (.laload, 1) := by decide +kernel
theorem dX9_edgeDegree_13 : decode cX9_edgeDegree 13 = .ok (.lconst 0, 1) := by decide +kernel
theorem dX9_edgeDegree_14 : decode cX9_edgeDegree 14 = .ok (.lcmp, 1) := by decide +kernel
theorem dX9_edgeDegree_15 : decode cX9_edgeDegree 15 = .ok (.ifCond .ne 9, 3) := by decide +kernel
theorem dX9_edgeDegree_18 : decode cX9_edgeDegree 18 = .ok (.iinc 1 (-1), 3) := by decide +kernel
theorem dX9_edgeDegree_21 : decode cX9_edgeDegree 21 = .ok (.goto (-14), 3) := by decide +kernel
theorem dX9_edgeDegree_24 : decode cX9_edgeDegree 24 = .ok (.iload_n 1, 1) := by decide +kernel
theorem dX9_edgeDegree_25 : decode cX9_edgeDegree 25 = .ok (.ireturn, 1) := by decide +kernel
theorem dX9_spanningTrees_0 : decode cX9_spanningTrees 0 = .ok (.aload_n 0, 1) := by decide +kernel
theorem dX9_spanningTrees_1 : decode cX9_spanningTrees 1 = .ok (.invokevirtual 171, 3) := by decide +kernel
theorem dX9_spanningTrees_4 : decode cX9_spanningTrees 4 = .ok (.aload_n 0, 1) := by decide +kernel
theorem dX9_spanningTrees_5 : decode cX9_spanningTrees 5 = .ok (.invokevirtual 132, 3) := by decide +kernel
theorem dX9_spanningTrees_8 : decode cX9_spanningTrees 8 = .ok (.aload_n 0, 1) := by decide +kernel
theorem dX9_spanningTrees_9 : decode cX9_spanningTrees 9 = .ok (.getfield 35, 3) := by decide +kernel
theorem dX9_spanningTrees_12 : decode cX9_spanningTrees 12 = .ok (.aload_n 0, 1) := by decide +kernel
theorem dX9_spanningTrees_13 : decode cX9_spanningTrees 13 = .ok (.getfield 117, 3) := by decide +kernel
theorem dX9_spanningTrees_16 : decode cX9_spanningTrees 16 = .ok (.laload, 1) := by decide +kernel
theorem dX9_spanningTrees_17 : decode cX9_spanningTrees 17 = .ok (.lstore_n 1, 1) := by decide +kernel
theorem dX9_spanningTrees_18 : decode cX9_spanningTrees 18 = .ok (.aload_n 0, 1) := by decide +kernel
theorem dX9_spanningTrees_19 : decode cX9_spanningTrees 19 = .ok (.getfield 117, 3) := by decide +kernel
theorem dX9_spanningTrees_22 : decode cX9_spanningTrees 22 = .ok (.iconst 2, 1) := by decide +kernel
theorem dX9_spanningTrees_23 : decode cX9_spanningTrees 23 = .ok (.irem, 1) := by decide +kernel
theorem dX9_spanningTrees_24 : decode cX9_spanningTrees 24 = .ok (.ifCond .ne 7, 3) := by decide +kernel
theorem dX9_spanningTrees_27 : decode cX9_spanningTrees 27 = .ok (.lload_n 1, 1) := by decide +kernel
theorem dX9_spanningTrees_28 : decode cX9_spanningTrees 28 = .ok (.goto 5, 3) := by decide +kernel
theorem dX9_spanningTrees_31 : decode cX9_spanningTrees 31 = .ok (.lload_n 1, 1) := by decide +kernel
theorem dX9_spanningTrees_32 : decode cX9_spanningTrees 32 = .ok (.lneg, 1) := by decide +kernel
theorem dX9_spanningTrees_33 : decode cX9_spanningTrees 33 = .ok (.l2i, 1) := by decide +kernel
theorem dX9_spanningTrees_34 : decode cX9_spanningTrees 34 = .ok (.ireturn, 1) := by decide +kernel
