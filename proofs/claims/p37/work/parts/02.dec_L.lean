theorem dL_part_0 : decode cL_part 0 = .ok (.iload_n 0, 1) := by decide +kernel
theorem dL_part_1 : decode cL_part 1 = .ok (.ldc 7, 2) := by decide +kernel
theorem dL_part_3 : decode cL_part 3 = .ok (.iand, 1) := by decide +kernel
theorem dL_part_4 : decode cL_part 4 = .ok (.iload_n 1, 1) := by decide +kernel
theorem dL_part_5 : decode cL_part 5 = .ok (.irem, 1) := by decide +kernel
theorem dL_part_6 : decode cL_part 6 = .ok (.ireturn, 1) := by decide +kernel
theorem dL_cell_0 : decode cL_cell 0 = .ok (.aload_n 0, 1) := by decide +kernel
theorem dL_cell_1 : decode cL_cell 1 = .ok (.arraylength, 1) := by decide +kernel
theorem dL_cell_2 : decode cL_cell 2 = .ok (.ifCond .ne 13, 3) := by decide +kernel
theorem dL_cell_5 : decode cL_cell 5 = .ok (.sipush 7919, 3) := by decide +kernel
theorem dL_cell_8 : decode cL_cell 8 = .ok (.iload_n 1, 1) := by decide +kernel
theorem dL_cell_9 : decode cL_cell 9 = .ok (.imul, 1) := by decide +kernel
theorem dL_cell_10 : decode cL_cell 10 = .ok (.iconst 3, 1) := by decide +kernel
theorem dL_cell_11 : decode cL_cell 11 = .ok (.iadd, 1) := by decide +kernel
theorem dL_cell_12 : decode cL_cell 12 = .ok (.goto 27, 3) := by decide +kernel
theorem dL_cell_15 : decode cL_cell 15 = .ok (.aload_n 0, 1) := by decide +kernel
theorem dL_cell_16 : decode cL_cell 16 = .ok (.iload_n 1, 1) := by decide +kernel
theorem dL_cell_17 : decode cL_cell 17 = .ok (.aload_n 0, 1) := by decide +kernel
theorem dL_cell_18 : decode cL_cell 18 = .ok (.arraylength, 1) := by decide +kernel
theorem dL_cell_19 : decode cL_cell 19 = .ok (.irem, 1) := by decide +kernel
theorem dL_cell_20 : decode cL_cell 20 = .ok (.iaload, 1) := by decide +kernel
theorem dL_cell_21 : decode cL_cell 21 = .ok (.iload_n 1, 1) := by decide +kernel
theorem dL_cell_22 : decode cL_cell 22 = .ok (.bipush 7, 2) := by decide +kernel
theorem dL_cell_24 : decode cL_cell 24 = .ok (.irem, 1) := by decide +kernel
theorem dL_cell_25 : decode cL_cell 25 = .ok (.ishr, 1) := by decide +kernel
theorem dL_cell_26 : decode cL_cell 26 = .ok (.iload_n 1, 1) := by decide +kernel
theorem dL_cell_27 : decode cL_cell 27 = .ok (.aload_n 0, 1) := by decide +kernel
theorem dL_cell_28 : decode cL_cell 28 = .ok (.arraylength, 1) := by decide +kernel
theorem dL_cell_29 : decode cL_cell 29 = .ok (.idiv, 1) := by decide +kernel
theorem dL_cell_30 : decode cL_cell 30 = .ok (.bipush 31, 2) := by decide +kernel
theorem dL_cell_32 : decode cL_cell 32 = .ok (.imul, 1) := by decide +kernel
theorem dL_cell_33 : decode cL_cell 33 = .ok (.ixor, 1) := by decide +kernel
theorem dL_cell_34 : decode cL_cell 34 = .ok (.iload_n 1, 1) := by decide +kernel
theorem dL_cell_35 : decode cL_cell 35 = .ok (.ldc 8, 2) := by decide +kernel
theorem dL_cell_37 : decode cL_cell 37 = .ok (.imul, 1) := by decide +kernel
theorem dL_cell_38 : decode cL_cell 38 = .ok (.ixor, 1) := by decide +kernel
theorem dL_cell_39 : decode cL_cell 39 = .ok (.ireturn, 1) := by decide +kernel
theorem dL_builds_0 : decode cL_builds 0 = .ok (.aload_n 1, 1) := by decide +kernel
theorem dL_builds_1 : decode cL_builds 1 = .ok (.iconst 0, 1) := by decide +kernel
theorem dL_builds_2 : decode cL_builds 2 = .ok (.iload 4, 2) := by decide +kernel
theorem dL_builds_4 : decode cL_builds 4 = .ok (.iastore, 1) := by decide +kernel
theorem dL_builds_5 : decode cL_builds 5 = .ok (.aload_n 1, 1) := by decide +kernel
theorem dL_builds_6 : decode cL_builds 6 = .ok (.iconst 1, 1) := by decide +kernel
theorem dL_builds_7 : decode cL_builds 7 = .ok (.iconst 0, 1) := by decide +kernel
theorem dL_builds_8 : decode cL_builds 8 = .ok (.iastore, 1) := by decide +kernel
theorem dL_builds_9 : decode cL_builds 9 = .ok (.aload_n 0, 1) := by decide +kernel
theorem dL_builds_10 : decode cL_builds 10 = .ok (.invokevirtual 9, 3) := by decide +kernel
theorem dL_builds_13 : decode cL_builds 13 = .ok (.istore 6, 2) := by decide +kernel
theorem dL_builds_15 : decode cL_builds 15 = .ok (.aload_n 0, 1) := by decide +kernel
theorem dL_builds_16 : decode cL_builds 16 = .ok (.iload 4, 2) := by decide +kernel
theorem dL_builds_18 : decode cL_builds 18 = .ok (.invokevirtual 15, 3) := by decide +kernel
theorem dL_builds_21 : decode cL_builds 21 = .ok (.iload 6, 2) := by decide +kernel
theorem dL_builds_23 : decode cL_builds 23 = .ok (.if_icmp .eq 5, 3) := by decide +kernel
theorem dL_builds_26 : decode cL_builds 26 = .ok (.iconst 0, 1) := by decide +kernel
theorem dL_builds_27 : decode cL_builds 27 = .ok (.ireturn, 1) := by decide +kernel
theorem dL_builds_28 : decode cL_builds 28 = .ok (.iload 4, 2) := by decide +kernel
theorem dL_builds_30 : decode cL_builds 30 = .ok (.iconst 1, 1) := by decide +kernel
theorem dL_builds_31 : decode cL_builds 31 = .ok (.if_icmp .ne 7, 3) := by decide +kernel
theorem dL_builds_34 : decode cL_builds 34 = .ok (.iconst 0, 1) := by decide +kernel
theorem dL_builds_35 : decode cL_builds 35 = .ok (.goto 15, 3) := by decide +kernel
theorem dL_builds_38 : decode cL_builds 38 = .ok (.aload_n 2, 1) := by decide +kernel
theorem dL_builds_39 : decode cL_builds 39 = .ok (.iload_n 3, 1) := by decide +kernel
theorem dL_builds_40 : decode cL_builds 40 = .ok (.invokestatic 19, 3) := by decide +kernel
theorem dL_builds_43 : decode cL_builds 43 = .ok (.iload 5, 2) := by decide +kernel
theorem dL_builds_45 : decode cL_builds 45 = .ok (.iconst 1, 1) := by decide +kernel
theorem dL_builds_46 : decode cL_builds 46 = .ok (.iadd, 1) := by decide +kernel
theorem dL_builds_47 : decode cL_builds 47 = .ok (.invokestatic 25, 3) := by decide +kernel
theorem dL_builds_50 : decode cL_builds 50 = .ok (.istore 7, 2) := by decide +kernel
theorem dL_builds_52 : decode cL_builds 52 = .ok (.iconst 0, 1) := by decide +kernel
theorem dL_builds_53 : decode cL_builds 53 = .ok (.istore 8, 2) := by decide +kernel
theorem dL_builds_55 : decode cL_builds 55 = .ok (.iload 8, 2) := by decide +kernel
theorem dL_builds_57 : decode cL_builds 57 = .ok (.iload 7, 2) := by decide +kernel
theorem dL_builds_59 : decode cL_builds 59 = .ok (.if_icmp .ge 124, 3) := by decide +kernel
theorem dL_builds_62 : decode cL_builds 62 = .ok (.aload_n 2, 1) := by decide +kernel
theorem dL_builds_63 : decode cL_builds 63 = .ok (.iload_n 3, 1) := by decide +kernel
theorem dL_builds_64 : decode cL_builds 64 = .ok (.iconst 1, 1) := by decide +kernel
theorem dL_builds_65 : decode cL_builds 65 = .ok (.iadd, 1) := by decide +kernel
theorem dL_builds_66 : decode cL_builds 66 = .ok (.iload 8, 2) := by decide +kernel
theorem dL_builds_68 : decode cL_builds 68 = .ok (.iadd, 1) := by decide +kernel
theorem dL_builds_69 : decode cL_builds 69 = .ok (.invokestatic 19, 3) := by decide +kernel
theorem dL_builds_72 : decode cL_builds 72 = .ok (.istore 9, 2) := by decide +kernel
theorem dL_builds_74 : decode cL_builds 74 = .ok (.iload 9, 2) := by decide +kernel
theorem dL_builds_76 : decode cL_builds 76 = .ok (.iload 4, 2) := by decide +kernel
theorem dL_builds_78 : decode cL_builds 78 = .ok (.invokestatic 25, 3) := by decide +kernel
theorem dL_builds_81 : decode cL_builds 81 = .ok (.istore 10, 2) := by decide +kernel
theorem dL_builds_83 : decode cL_builds 83 = .ok (.iload 10, 2) := by decide +kernel
theorem dL_builds_85 : decode cL_builds 85 = .ok (.iconst 1, 1) := by decide +kernel
theorem dL_builds_86 : decode cL_builds 86 = .ok (.iadd, 1) := by decide +kernel
theorem dL_builds_87 : decode cL_builds 87 = .ok (.iload 9, 2) := by decide +kernel
theorem dL_builds_89 : decode cL_builds 89 = .ok (.iconst 4, 1) := by decide +kernel
theorem dL_builds_90 : decode cL_builds 90 = .ok (.ishr, 1) := by decide +kernel
theorem dL_builds_91 : decode cL_builds 91 = .ok (.iload 4, 2) := by decide +kernel
theorem dL_builds_93 : decode cL_builds 93 = .ok (.iconst 1, 1) := by decide +kernel
theorem dL_builds_94 : decode cL_builds 94 = .ok (.isub, 1) := by decide +kernel
theorem dL_builds_95 : decode cL_builds 95 = .ok (.invokestatic 25, 3) := by decide +kernel
theorem dL_builds_98 : decode cL_builds 98 = .ok (.iadd, 1) := by decide +kernel
theorem dL_builds_99 : decode cL_builds 99 = .ok (.iload 4, 2) := by decide +kernel
theorem dL_builds_101 : decode cL_builds 101 = .ok (.irem, 1) := by decide +kernel
theorem dL_builds_102 : decode cL_builds 102 = .ok (.istore 11, 2) := by decide +kernel
theorem dL_builds_104 : decode cL_builds 104 = .ok (.iload 9, 2) := by decide +kernel
theorem dL_builds_106 : decode cL_builds 106 = .ok (.bipush 9, 2) := by decide +kernel
theorem dL_builds_108 : decode cL_builds 108 = .ok (.ishr, 1) := by decide +kernel
theorem dL_builds_109 : decode cL_builds 109 = .ok (.iconst 3, 1) := by decide +kernel
theorem dL_builds_110 : decode cL_builds 110 = .ok (.invokestatic 25, 3) := by decide +kernel
theorem dL_builds_113 : decode cL_builds 113 = .ok (.ifCond .ne 7, 3) := by decide +kernel
theorem dL_builds_116 : decode cL_builds 116 = .ok (.iconst (-1), 1) := by decide +kernel
theorem dL_builds_117 : decode cL_builds 117 = .ok (.goto 4, 3) := by decide +kernel
theorem dL_builds_120 : decode cL_builds 120 = .ok (.iconst 1, 1) := by decide +kernel
theorem dL_builds_121 : decode cL_builds 121 = .ok (.istore 12, 2) := by decide +kernel
theorem dL_builds_123 : decode cL_builds 123 = .ok (.aload_n 1, 1) := by decide +kernel
theorem dL_builds_124 : decode cL_builds 124 = .ok (.iconst 2, 1) := by decide +kernel
theorem dL_builds_125 : decode cL_builds 125 = .ok (.iconst 3, 1) := by decide +kernel
theorem dL_builds_126 : decode cL_builds 126 = .ok (.iload 8, 2) := by decide +kernel
theorem dL_builds_128 : decode cL_builds 128 = .ok (.imul, 1) := by decide +kernel
theorem dL_builds_129 : decode cL_builds 129 = .ok (.iadd, 1) := by decide +kernel
theorem dL_builds_130 : decode cL_builds 130 = .ok (.iload 10, 2) := by decide +kernel
theorem dL_builds_132 : decode cL_builds 132 = .ok (.iastore, 1) := by decide +kernel
theorem dL_builds_133 : decode cL_builds 133 = .ok (.aload_n 1, 1) := by decide +kernel
theorem dL_builds_134 : decode cL_builds 134 = .ok (.iconst 3, 1) := by decide +kernel
theorem dL_builds_135 : decode cL_builds 135 = .ok (.iconst 3, 1) := by decide +kernel
theorem dL_builds_136 : decode cL_builds 136 = .ok (.iload 8, 2) := by decide +kernel
theorem dL_builds_138 : decode cL_builds 138 = .ok (.imul, 1) := by decide +kernel
theorem dL_builds_139 : decode cL_builds 139 = .ok (.iadd, 1) := by decide +kernel
theorem dL_builds_140 : decode cL_builds 140 = .ok (.iload 11, 2) := by decide +kernel
theorem dL_builds_142 : decode cL_builds 142 = .ok (.iastore, 1) := by decide +kernel
theorem dL_builds_143 : decode cL_builds 143 = .ok (.aload_n 1, 1) := by decide +kernel
theorem dL_builds_144 : decode cL_builds 144 = .ok (.iconst 4, 1) := by decide +kernel
theorem dL_builds_145 : decode cL_builds 145 = .ok (.iconst 3, 1) := by decide +kernel
theorem dL_builds_146 : decode cL_builds 146 = .ok (.iload 8, 2) := by decide +kernel
theorem dL_builds_148 : decode cL_builds 148 = .ok (.imul, 1) := by decide +kernel
theorem dL_builds_149 : decode cL_builds 149 = .ok (.iadd, 1) := by decide +kernel
theorem dL_builds_150 : decode cL_builds 150 = .ok (.iload 12, 2) := by decide +kernel
theorem dL_builds_152 : decode cL_builds 152 = .ok (.iastore, 1) := by decide +kernel
theorem dL_builds_153 : decode cL_builds 153 = .ok (.aload_n 1, 1) := by decide +kernel
theorem dL_builds_154 : decode cL_builds 154 = .ok (.iconst 1, 1) := by decide +kernel
theorem dL_builds_155 : decode cL_builds 155 = .ok (.dup2, 1) := by decide +kernel
theorem dL_builds_156 : decode cL_builds 156 = .ok (.iaload, 1) := by decide +kernel
theorem dL_builds_157 : decode cL_builds 157 = .ok (.iconst 1, 1) := by decide +kernel
theorem dL_builds_158 : decode cL_builds 158 = .ok (.iadd, 1) := by decide +kernel
theorem dL_builds_159 : decode cL_builds 159 = .ok (.iastore, 1) := by decide +kernel
theorem dL_builds_160 : decode cL_builds 160 = .ok (.aload_n 0, 1) := by decide +kernel
theorem dL_builds_161 : decode cL_builds 161 = .ok (.iload 10, 2) := by decide +kernel
theorem dL_builds_163 : decode cL_builds 163 = .ok (.iload 11, 2) := by decide +kernel
theorem dL_builds_165 : decode cL_builds 165 = .ok (.iload 12, 2) := by decide +kernel
theorem dL_builds_167 : decode cL_builds 167 = .ok (.invokevirtual 29, 3) := by decide +kernel
theorem dL_builds_170 : decode cL_builds 170 = .ok (.iload 8, 2) := by decide +kernel
theorem dL_builds_172 : decode cL_builds 172 = .ok (.if_icmp .eq 5, 3) := by decide +kernel
theorem dL_builds_175 : decode cL_builds 175 = .ok (.iconst 0, 1) := by decide +kernel
theorem dL_builds_176 : decode cL_builds 176 = .ok (.ireturn, 1) := by decide +kernel
theorem dL_builds_177 : decode cL_builds 177 = .ok (.iinc 8 1, 3) := by decide +kernel
theorem dL_builds_180 : decode cL_builds 180 = .ok (.goto (-125), 3) := by decide +kernel
theorem dL_builds_183 : decode cL_builds 183 = .ok (.iconst 1, 1) := by decide +kernel
theorem dL_builds_184 : decode cL_builds 184 = .ok (.ireturn, 1) := by decide +kernel
theorem dL_digest_0 : decode cL_digest 0 = .ok (.ldc2_w 39, 3) := by decide +kernel
theorem dL_digest_3 : decode cL_digest 3 = .ok (.aload_n 0, 1) := by decide +kernel
theorem dL_digest_4 : decode cL_digest 4 = .ok (.invokevirtual 9, 3) := by decide +kernel
theorem dL_digest_7 : decode cL_digest 7 = .ok (.i2l, 1) := by decide +kernel
theorem dL_digest_8 : decode cL_digest 8 = .ok (.lmul, 1) := by decide +kernel
theorem dL_digest_9 : decode cL_digest 9 = .ok (.aload_n 0, 1) := by decide +kernel
theorem dL_digest_10 : decode cL_digest 10 = .ok (.invokevirtual 41, 3) := by decide +kernel
theorem dL_digest_13 : decode cL_digest 13 = .ok (.i2l, 1) := by decide +kernel
theorem dL_digest_14 : decode cL_digest 14 = .ok (.ladd, 1) := by decide +kernel
theorem dL_digest_15 : decode cL_digest 15 = .ok (.lstore_n 1, 1) := by decide +kernel
theorem dL_digest_16 : decode cL_digest 16 = .ok (.iconst 0, 1) := by decide +kernel
theorem dL_digest_17 : decode cL_digest 17 = .ok (.istore_n 3, 1) := by decide +kernel
theorem dL_digest_18 : decode cL_digest 18 = .ok (.iload_n 3, 1) := by decide +kernel
theorem dL_digest_19 : decode cL_digest 19 = .ok (.iconst 2, 1) := by decide +kernel
theorem dL_digest_20 : decode cL_digest 20 = .ok (.aload_n 0, 1) := by decide +kernel
theorem dL_digest_21 : decode cL_digest 21 = .ok (.invokevirtual 41, 3) := by decide +kernel
theorem dL_digest_24 : decode cL_digest 24 = .ok (.imul, 1) := by decide +kernel
theorem dL_digest_25 : decode cL_digest 25 = .ok (.if_icmp .ge 22, 3) := by decide +kernel
theorem dL_digest_28 : decode cL_digest 28 = .ok (.ldc2_w 39, 3) := by decide +kernel
theorem dL_digest_31 : decode cL_digest 31 = .ok (.lload_n 1, 1) := by decide +kernel
theorem dL_digest_32 : decode cL_digest 32 = .ok (.lmul, 1) := by decide +kernel
theorem dL_digest_33 : decode cL_digest 33 = .ok (.aload_n 0, 1) := by decide +kernel
theorem dL_digest_34 : decode cL_digest 34 = .ok (.iload_n 3, 1) := by decide +kernel
theorem dL_digest_35 : decode cL_digest 35 = .ok (.invokevirtual 44, 3) := by decide +kernel
theorem dL_digest_38 : decode cL_digest 38 = .ok (.i2l, 1) := by decide +kernel
theorem dL_digest_39 : decode cL_digest 39 = .ok (.ladd, 1) := by decide +kernel
theorem dL_digest_40 : decode cL_digest 40 = .ok (.lstore_n 1, 1) := by decide +kernel
theorem dL_digest_41 : decode cL_digest 41 = .ok (.iinc 3 1, 3) := by decide +kernel
theorem dL_digest_44 : decode cL_digest 44 = .ok (.goto (-26), 3) := by decide +kernel
theorem dL_digest_47 : decode cL_digest 47 = .ok (.iconst 1, 1) := by decide +kernel
theorem dL_digest_48 : decode cL_digest 48 = .ok (.istore_n 3, 1) := by decide +kernel
theorem dL_digest_49 : decode cL_digest 49 = .ok (.iload_n 3, 1) := by decide +kernel
theorem dL_digest_50 : decode cL_digest 50 = .ok (.bipush 7, 2) := by decide +kernel
theorem dL_digest_52 : decode cL_digest 52 = .ok (.if_icmp .ge 31, 3) := by decide +kernel
theorem dL_digest_55 : decode cL_digest 55 = .ok (.ldc2_w 39, 3) := by decide +kernel
theorem dL_digest_58 : decode cL_digest 58 = .ok (.ldc2_w 39, 3) := by decide +kernel
theorem dL_digest_61 : decode cL_digest 61 = .ok (.lload_n 1, 1) := by decide +kernel
theorem dL_digest_62 : decode cL_digest 62 = .ok (.lmul, 1) := by decide +kernel
theorem dL_digest_63 : decode cL_digest 63 = .ok (.aload_n 0, 1) := by decide +kernel
theorem dL_digest_64 : decode cL_digest 64 = .ok (.iload_n 3, 1) := by decide +kernel
theorem dL_digest_65 : decode cL_digest 65 = .ok (.invokevirtual 47, 3) := by decide +kernel
theorem dL_digest_68 : decode cL_digest 68 = .ok (.ladd, 1) := by decide +kernel
theorem dL_digest_69 : decode cL_digest 69 = .ok (.lmul, 1) := by decide +kernel
theorem dL_digest_70 : decode cL_digest 70 = .ok (.aload_n 0, 1) := by decide +kernel
theorem dL_digest_71 : decode cL_digest 71 = .ok (.iload_n 3, 1) := by decide +kernel
theorem dL_digest_72 : decode cL_digest 72 = .ok (.invokevirtual 51, 3) := by decide +kernel
theorem dL_digest_75 : decode cL_digest 75 = .ok (.ladd, 1) := by decide +kernel
theorem dL_digest_76 : decode cL_digest 76 = .ok (.lstore_n 1, 1) := by decide +kernel
theorem dL_digest_77 : decode cL_digest 77 = .ok (.iinc 3 1, 3) := by decide +kernel
theorem dL_digest_80 : decode cL_digest 80 = .ok (.goto (-31), 3) := by decide +kernel
theorem dL_digest_83 : decode cL_digest 83 = .ok (.ldc2_w 39, 3) := by decide +kernel
theorem dL_digest_86 : decode cL_digest 86 = .ok (.lload_n 1, 1) := by decide +kernel
theorem dL_digest_87 : decode cL_digest 87 = .ok (.lmul, 1) := by decide +kernel
theorem dL_digest_88 : decode cL_digest 88 = .ok (.aload_n 0, 1) := by decide +kernel
theorem dL_digest_89 : decode cL_digest 89 = .ok (.invokevirtual 54, 3) := by decide +kernel
theorem dL_digest_92 : decode cL_digest 92 = .ok (.i2l, 1) := by decide +kernel
theorem dL_digest_93 : decode cL_digest 93 = .ok (.ladd, 1) := by decide +kernel
theorem dL_digest_94 : decode cL_digest 94 = .ok (.lreturn, 1) := by decide +kernel
theorem dL_refused_0 : decode cL_refused 0 = .ok (.aload_n 0, 1) := by decide +kernel
theorem dL_refused_1 : decode cL_refused 1 = .ok (.invokestatic 57, 3) := by decide +kernel
theorem dL_refused_4 : decode cL_refused 4 = .ok (.lstore_n 1, 1) := by decide +kernel
theorem dL_refused_5 : decode cL_refused 5 = .ok (.aload_n 0, 1) := by decide +kernel
theorem dL_refused_6 : decode cL_refused 6 = .ok (.invokevirtual 9, 3) := by decide +kernel
theorem dL_refused_9 : decode cL_refused 9 = .ok (.istore_n 3, 1) := by decide +kernel
theorem dL_refused_10 : decode cL_refused 10 = .ok (.aload_n 0, 1) := by decide +kernel
theorem dL_refused_11 : decode cL_refused 11 = .ok (.invokevirtual 41, 3) := by decide +kernel
theorem dL_refused_14 : decode cL_refused 14 = .ok (.istore 4, 2) := by decide +kernel
theorem dL_refused_16 : decode cL_refused 16 = .ok (.aload_n 0, 1) := by decide +kernel
theorem dL_refused_17 : decode cL_refused 17 = .ok (.iconst 0, 1) := by decide +kernel
theorem dL_refused_18 : decode cL_refused 18 = .ok (.invokevirtual 15, 3) := by decide +kernel
theorem dL_refused_21 : decode cL_refused 21 = .ok (.iconst (-1), 1) := by decide +kernel
theorem dL_refused_22 : decode cL_refused 22 = .ok (.if_icmp .ne 73, 3) := by decide +kernel
theorem dL_refused_25 : decode cL_refused 25 = .ok (.aload_n 0, 1) := by decide +kernel
theorem dL_refused_26 : decode cL_refused 26 = .ok (.bipush 7, 2) := by decide +kernel
theorem dL_refused_28 : decode cL_refused 28 = .ok (.invokevirtual 15, 3) := by decide +kernel
theorem dL_refused_31 : decode cL_refused 31 = .ok (.iconst (-1), 1) := by decide +kernel
theorem dL_refused_32 : decode cL_refused 32 = .ok (.if_icmp .ne 63, 3) := by decide +kernel
theorem dL_refused_35 : decode cL_refused 35 = .ok (.aload_n 0, 1) := by decide +kernel
theorem dL_refused_36 : decode cL_refused 36 = .ok (.iconst (-1), 1) := by decide +kernel
theorem dL_refused_37 : decode cL_refused 37 = .ok (.iconst 0, 1) := by decide +kernel
theorem dL_refused_38 : decode cL_refused 38 = .ok (.iconst 1, 1) := by decide +kernel
theorem dL_refused_39 : decode cL_refused 39 = .ok (.invokevirtual 29, 3) := by decide +kernel
theorem dL_refused_42 : decode cL_refused 42 = .ok (.iconst (-1), 1) := by decide +kernel
theorem dL_refused_43 : decode cL_refused 43 = .ok (.if_icmp .ne 52, 3) := by decide +kernel
theorem dL_refused_46 : decode cL_refused 46 = .ok (.aload_n 0, 1) := by decide +kernel
theorem dL_refused_47 : decode cL_refused 47 = .ok (.iconst 0, 1) := by decide +kernel
theorem dL_refused_48 : decode cL_refused 48 = .ok (.iload_n 3, 1) := by decide +kernel
theorem dL_refused_49 : decode cL_refused 49 = .ok (.iconst 1, 1) := by decide +kernel
theorem dL_refused_50 : decode cL_refused 50 = .ok (.invokevirtual 29, 3) := by decide +kernel
theorem dL_refused_53 : decode cL_refused 53 = .ok (.iconst (-1), 1) := by decide +kernel
theorem dL_refused_54 : decode cL_refused 54 = .ok (.if_icmp .ne 41, 3) := by decide +kernel
theorem dL_refused_57 : decode cL_refused 57 = .ok (.aload_n 0, 1) := by decide +kernel
theorem dL_refused_58 : decode cL_refused 58 = .ok (.iconst 0, 1) := by decide +kernel
theorem dL_refused_59 : decode cL_refused 59 = .ok (.iconst 0, 1) := by decide +kernel
theorem dL_refused_60 : decode cL_refused 60 = .ok (.iconst 1, 1) := by decide +kernel
theorem dL_refused_61 : decode cL_refused 61 = .ok (.invokevirtual 29, 3) := by decide +kernel
theorem dL_refused_64 : decode cL_refused 64 = .ok (.iconst (-1), 1) := by decide +kernel
theorem dL_refused_65 : decode cL_refused 65 = .ok (.if_icmp .ne 30, 3) := by decide +kernel
theorem dL_refused_68 : decode cL_refused 68 = .ok (.iload_n 3, 1) := by decide +kernel
theorem dL_refused_69 : decode cL_refused 69 = .ok (.iconst 1, 1) := by decide +kernel
theorem dL_refused_70 : decode cL_refused 70 = .ok (.if_icmp .le 27, 3) := by decide +kernel
theorem dL_refused_73 : decode cL_refused 73 = .ok (.aload_n 0, 1) := by decide +kernel
theorem dL_refused_74 : decode cL_refused 74 = .ok (.iconst 0, 1) := by decide +kernel
theorem dL_refused_75 : decode cL_refused 75 = .ok (.iconst 1, 1) := by decide +kernel
theorem dL_refused_76 : decode cL_refused 76 = .ok (.iconst 0, 1) := by decide +kernel
theorem dL_refused_77 : decode cL_refused 77 = .ok (.invokevirtual 29, 3) := by decide +kernel
theorem dL_refused_80 : decode cL_refused 80 = .ok (.iconst (-1), 1) := by decide +kernel
theorem dL_refused_81 : decode cL_refused 81 = .ok (.if_icmp .ne 14, 3) := by decide +kernel
theorem dL_refused_84 : decode cL_refused 84 = .ok (.aload_n 0, 1) := by decide +kernel
theorem dL_refused_85 : decode cL_refused 85 = .ok (.iconst 1, 1) := by decide +kernel
theorem dL_refused_86 : decode cL_refused 86 = .ok (.iconst 0, 1) := by decide +kernel
theorem dL_refused_87 : decode cL_refused 87 = .ok (.iconst 2, 1) := by decide +kernel
theorem dL_refused_88 : decode cL_refused 88 = .ok (.invokevirtual 29, 3) := by decide +kernel
theorem dL_refused_91 : decode cL_refused 91 = .ok (.iconst (-1), 1) := by decide +kernel
theorem dL_refused_92 : decode cL_refused 92 = .ok (.if_icmp .eq 5, 3) := by decide +kernel
theorem dL_refused_95 : decode cL_refused 95 = .ok (.iconst 0, 1) := by decide +kernel
theorem dL_refused_96 : decode cL_refused 96 = .ok (.ireturn, 1) := by decide +kernel
theorem dL_refused_97 : decode cL_refused 97 = .ok (.aload_n 0, 1) := by decide +kernel
theorem dL_refused_98 : decode cL_refused 98 = .ok (.iload 4, 2) := by decide +kernel
theorem dL_refused_100 : decode cL_refused 100 = .ok (.invokevirtual 61, 3) := by decide +kernel
theorem dL_refused_103 : decode cL_refused 103 = .ok (.iconst (-1), 1) := by decide +kernel
theorem dL_refused_104 : decode cL_refused 104 = .ok (.if_icmp .ne 49, 3) := by decide +kernel
theorem dL_refused_107 : decode cL_refused 107 = .ok (.aload_n 0, 1) := by decide +kernel
theorem dL_refused_108 : decode cL_refused 108 = .ok (.iconst (-1), 1) := by decide +kernel
theorem dL_refused_109 : decode cL_refused 109 = .ok (.invokevirtual 61, 3) := by decide +kernel
theorem dL_refused_112 : decode cL_refused 112 = .ok (.iconst (-1), 1) := by decide +kernel
theorem dL_refused_113 : decode cL_refused 113 = .ok (.if_icmp .ne 40, 3) := by decide +kernel
theorem dL_refused_116 : decode cL_refused 116 = .ok (.aload_n 0, 1) := by decide +kernel
theorem dL_refused_117 : decode cL_refused 117 = .ok (.iload 4, 2) := by decide +kernel
theorem dL_refused_119 : decode cL_refused 119 = .ok (.invokevirtual 64, 3) := by decide +kernel
theorem dL_refused_122 : decode cL_refused 122 = .ok (.ifCond .ne 31, 3) := by decide +kernel
theorem dL_refused_125 : decode cL_refused 125 = .ok (.aload_n 0, 1) := by decide +kernel
theorem dL_refused_126 : decode cL_refused 126 = .ok (.iconst (-1), 1) := by decide +kernel
theorem dL_refused_127 : decode cL_refused 127 = .ok (.invokevirtual 64, 3) := by decide +kernel
theorem dL_refused_130 : decode cL_refused 130 = .ok (.ifCond .ne 23, 3) := by decide +kernel
theorem dL_refused_133 : decode cL_refused 133 = .ok (.aload_n 0, 1) := by decide +kernel
theorem dL_refused_134 : decode cL_refused 134 = .ok (.iconst (-1), 1) := by decide +kernel
theorem dL_refused_135 : decode cL_refused 135 = .ok (.invokevirtual 67, 3) := by decide +kernel
theorem dL_refused_138 : decode cL_refused 138 = .ok (.iconst (-1), 1) := by decide +kernel
theorem dL_refused_139 : decode cL_refused 139 = .ok (.if_icmp .ne 14, 3) := by decide +kernel
theorem dL_refused_142 : decode cL_refused 142 = .ok (.aload_n 0, 1) := by decide +kernel
theorem dL_refused_143 : decode cL_refused 143 = .ok (.sipush 256, 3) := by decide +kernel
theorem dL_refused_146 : decode cL_refused 146 = .ok (.invokevirtual 67, 3) := by decide +kernel
theorem dL_refused_149 : decode cL_refused 149 = .ok (.iconst (-1), 1) := by decide +kernel
theorem dL_refused_150 : decode cL_refused 150 = .ok (.if_icmp .eq 5, 3) := by decide +kernel
theorem dL_refused_153 : decode cL_refused 153 = .ok (.iconst 0, 1) := by decide +kernel
theorem dL_refused_154 : decode cL_refused 154 = .ok (.ireturn, 1) := by decide +kernel
theorem dL_refused_155 : decode cL_refused 155 = .ok (.aload_n 0, 1) := by decide +kernel
theorem dL_refused_156 : decode cL_refused 156 = .ok (.iconst (-1), 1) := by decide +kernel
theorem dL_refused_157 : decode cL_refused 157 = .ok (.invokevirtual 44, 3) := by decide +kernel
theorem dL_refused_160 : decode cL_refused 160 = .ok (.iconst (-1), 1) := by decide +kernel
theorem dL_refused_161 : decode cL_refused 161 = .ok (.if_icmp .ne 56, 3) := by decide +kernel
theorem dL_refused_164 : decode cL_refused 164 = .ok (.aload_n 0, 1) := by decide +kernel
theorem dL_refused_165 : decode cL_refused 165 = .ok (.iconst 2, 1) := by decide +kernel
theorem dL_refused_166 : decode cL_refused 166 = .ok (.iload 4, 2) := by decide +kernel
theorem dL_refused_168 : decode cL_refused 168 = .ok (.imul, 1) := by decide +kernel
theorem dL_refused_169 : decode cL_refused 169 = .ok (.invokevirtual 44, 3) := by decide +kernel
theorem dL_refused_172 : decode cL_refused 172 = .ok (.iconst (-1), 1) := by decide +kernel
theorem dL_refused_173 : decode cL_refused 173 = .ok (.if_icmp .ne 44, 3) := by decide +kernel
theorem dL_refused_176 : decode cL_refused 176 = .ok (.aload_n 0, 1) := by decide +kernel
theorem dL_refused_177 : decode cL_refused 177 = .ok (.iconst 0, 1) := by decide +kernel
theorem dL_refused_178 : decode cL_refused 178 = .ok (.iconst 2, 1) := by decide +kernel
theorem dL_refused_179 : decode cL_refused 179 = .ok (.iload 4, 2) := by decide +kernel
theorem dL_refused_181 : decode cL_refused 181 = .ok (.imul, 1) := by decide +kernel
theorem dL_refused_182 : decode cL_refused 182 = .ok (.invokevirtual 70, 3) := by decide +kernel
theorem dL_refused_185 : decode cL_refused 185 = .ok (.iconst (-1), 1) := by decide +kernel
theorem dL_refused_186 : decode cL_refused 186 = .ok (.if_icmp .ne 31, 3) := by decide +kernel
theorem dL_refused_189 : decode cL_refused 189 = .ok (.aload_n 0, 1) := by decide +kernel
theorem dL_refused_190 : decode cL_refused 190 = .ok (.iconst (-1), 1) := by decide +kernel
theorem dL_refused_191 : decode cL_refused 191 = .ok (.iconst 0, 1) := by decide +kernel
theorem dL_refused_192 : decode cL_refused 192 = .ok (.invokevirtual 70, 3) := by decide +kernel
theorem dL_refused_195 : decode cL_refused 195 = .ok (.iconst (-1), 1) := by decide +kernel
theorem dL_refused_196 : decode cL_refused 196 = .ok (.if_icmp .ne 21, 3) := by decide +kernel
theorem dL_refused_199 : decode cL_refused 199 = .ok (.aload_n 0, 1) := by decide +kernel
theorem dL_refused_200 : decode cL_refused 200 = .ok (.iconst (-1), 1) := by decide +kernel
theorem dL_refused_201 : decode cL_refused 201 = .ok (.invokevirtual 73, 3) := by decide +kernel
theorem dL_refused_204 : decode cL_refused 204 = .ok (.iconst (-1), 1) := by decide +kernel
theorem dL_refused_205 : decode cL_refused 205 = .ok (.if_icmp .ne 12, 3) := by decide +kernel
theorem dL_refused_208 : decode cL_refused 208 = .ok (.aload_n 0, 1) := by decide +kernel
theorem dL_refused_209 : decode cL_refused 209 = .ok (.iload_n 3, 1) := by decide +kernel
theorem dL_refused_210 : decode cL_refused 210 = .ok (.invokevirtual 73, 3) := by decide +kernel
theorem dL_refused_213 : decode cL_refused 213 = .ok (.iconst (-1), 1) := by decide +kernel
theorem dL_refused_214 : decode cL_refused 214 = .ok (.if_icmp .eq 5, 3) := by decide +kernel
theorem dL_refused_217 : decode cL_refused 217 = .ok (.iconst 0, 1) := by decide +kernel
theorem dL_refused_218 : decode cL_refused 218 = .ok (.ireturn, 1) := by decide +kernel
theorem dL_refused_219 : decode cL_refused 219 = .ok (.aload_n 0, 1) := by decide +kernel
theorem dL_refused_220 : decode cL_refused 220 = .ok (.iconst 0, 1) := by decide +kernel
theorem dL_refused_221 : decode cL_refused 221 = .ok (.invokevirtual 51, 3) := by decide +kernel
theorem dL_refused_224 : decode cL_refused 224 = .ok (.ldc2_w 76, 3) := by decide +kernel
theorem dL_refused_227 : decode cL_refused 227 = .ok (.lcmp, 1) := by decide +kernel
theorem dL_refused_228 : decode cL_refused 228 = .ok (.ifCond .ne 66, 3) := by decide +kernel
theorem dL_refused_231 : decode cL_refused 231 = .ok (.aload_n 0, 1) := by decide +kernel
theorem dL_refused_232 : decode cL_refused 232 = .ok (.bipush 19, 2) := by decide +kernel
theorem dL_refused_234 : decode cL_refused 234 = .ok (.invokevirtual 51, 3) := by decide +kernel
theorem dL_refused_237 : decode cL_refused 237 = .ok (.ldc2_w 76, 3) := by decide +kernel
theorem dL_refused_240 : decode cL_refused 240 = .ok (.lcmp, 1) := by decide +kernel
theorem dL_refused_241 : decode cL_refused 241 = .ok (.ifCond .ne 53, 3) := by decide +kernel
theorem dL_refused_244 : decode cL_refused 244 = .ok (.aload_n 0, 1) := by decide +kernel
theorem dL_refused_245 : decode cL_refused 245 = .ok (.iconst 0, 1) := by decide +kernel
theorem dL_refused_246 : decode cL_refused 246 = .ok (.invokevirtual 47, 3) := by decide +kernel
theorem dL_refused_249 : decode cL_refused 249 = .ok (.ldc2_w 76, 3) := by decide +kernel
theorem dL_refused_252 : decode cL_refused 252 = .ok (.lcmp, 1) := by decide +kernel
theorem dL_refused_253 : decode cL_refused 253 = .ok (.ifCond .ne 41, 3) := by decide +kernel
theorem dL_refused_256 : decode cL_refused 256 = .ok (.aload_n 0, 1) := by decide +kernel
theorem dL_refused_257 : decode cL_refused 257 = .ok (.bipush 19, 2) := by decide +kernel
theorem dL_refused_259 : decode cL_refused 259 = .ok (.invokevirtual 78, 3) := by decide +kernel
theorem dL_refused_262 : decode cL_refused 262 = .ok (.ldc2_w 76, 3) := by decide +kernel
theorem dL_refused_265 : decode cL_refused 265 = .ok (.lcmp, 1) := by decide +kernel
theorem dL_refused_266 : decode cL_refused 266 = .ok (.ifCond .ne 28, 3) := by decide +kernel
theorem dL_refused_269 : decode cL_refused 269 = .ok (.aload_n 0, 1) := by decide +kernel
theorem dL_refused_270 : decode cL_refused 270 = .ok (.iconst 0, 1) := by decide +kernel
theorem dL_refused_271 : decode cL_refused 271 = .ok (.invokevirtual 81, 3) := by decide +kernel
theorem dL_refused_274 : decode cL_refused 274 = .ok (.ldc2_w 76, 3) := by decide +kernel
theorem dL_refused_277 : decode cL_refused 277 = .ok (.lcmp, 1) := by decide +kernel
theorem dL_refused_278 : decode cL_refused 278 = .ok (.ifCond .ne 16, 3) := by decide +kernel
theorem dL_refused_281 : decode cL_refused 281 = .ok (.aload_n 0, 1) := by decide +kernel
theorem dL_refused_282 : decode cL_refused 282 = .ok (.bipush 19, 2) := by decide +kernel
theorem dL_refused_284 : decode cL_refused 284 = .ok (.invokevirtual 84, 3) := by decide +kernel
theorem dL_refused_287 : decode cL_refused 287 = .ok (.ldc2_w 76, 3) := by decide +kernel
theorem dL_refused_290 : decode cL_refused 290 = .ok (.lcmp, 1) := by decide +kernel
theorem dL_refused_291 : decode cL_refused 291 = .ok (.ifCond .eq 5, 3) := by decide +kernel
theorem dL_refused_294 : decode cL_refused 294 = .ok (.iconst 0, 1) := by decide +kernel
theorem dL_refused_295 : decode cL_refused 295 = .ok (.ireturn, 1) := by decide +kernel
theorem dL_refused_296 : decode cL_refused 296 = .ok (.aload_n 0, 1) := by decide +kernel
theorem dL_refused_297 : decode cL_refused 297 = .ok (.iconst 0, 1) := by decide +kernel
theorem dL_refused_298 : decode cL_refused 298 = .ok (.iconst 0, 1) := by decide +kernel
theorem dL_refused_299 : decode cL_refused 299 = .ok (.iconst 0, 1) := by decide +kernel
theorem dL_refused_300 : decode cL_refused 300 = .ok (.invokevirtual 87, 3) := by decide +kernel
theorem dL_refused_303 : decode cL_refused 303 = .ok (.iconst (-1), 1) := by decide +kernel
theorem dL_refused_304 : decode cL_refused 304 = .ok (.if_icmp .ne 88, 3) := by decide +kernel
theorem dL_refused_307 : decode cL_refused 307 = .ok (.aload_n 0, 1) := by decide +kernel
theorem dL_refused_308 : decode cL_refused 308 = .ok (.bipush 6, 2) := by decide +kernel
theorem dL_refused_310 : decode cL_refused 310 = .ok (.iconst 0, 1) := by decide +kernel
theorem dL_refused_311 : decode cL_refused 311 = .ok (.iconst 0, 1) := by decide +kernel
theorem dL_refused_312 : decode cL_refused 312 = .ok (.invokevirtual 87, 3) := by decide +kernel
theorem dL_refused_315 : decode cL_refused 315 = .ok (.iconst (-1), 1) := by decide +kernel
theorem dL_refused_316 : decode cL_refused 316 = .ok (.if_icmp .ne 76, 3) := by decide +kernel
theorem dL_refused_319 : decode cL_refused 319 = .ok (.aload_n 0, 1) := by decide +kernel
theorem dL_refused_320 : decode cL_refused 320 = .ok (.iconst 3, 1) := by decide +kernel
theorem dL_refused_321 : decode cL_refused 321 = .ok (.iconst 0, 1) := by decide +kernel
theorem dL_refused_322 : decode cL_refused 322 = .ok (.iconst 3, 1) := by decide +kernel
theorem dL_refused_323 : decode cL_refused 323 = .ok (.invokevirtual 87, 3) := by decide +kernel
theorem dL_refused_326 : decode cL_refused 326 = .ok (.iconst (-1), 1) := by decide +kernel
theorem dL_refused_327 : decode cL_refused 327 = .ok (.if_icmp .ne 65, 3) := by decide +kernel
theorem dL_refused_330 : decode cL_refused 330 = .ok (.aload_n 0, 1) := by decide +kernel
theorem dL_refused_331 : decode cL_refused 331 = .ok (.iconst 3, 1) := by decide +kernel
theorem dL_refused_332 : decode cL_refused 332 = .ok (.iconst 0, 1) := by decide +kernel
theorem dL_refused_333 : decode cL_refused 333 = .ok (.iconst (-1), 1) := by decide +kernel
theorem dL_refused_334 : decode cL_refused 334 = .ok (.invokevirtual 87, 3) := by decide +kernel
theorem dL_refused_337 : decode cL_refused 337 = .ok (.iconst (-1), 1) := by decide +kernel
theorem dL_refused_338 : decode cL_refused 338 = .ok (.if_icmp .ne 54, 3) := by decide +kernel
theorem dL_refused_341 : decode cL_refused 341 = .ok (.aload_n 0, 1) := by decide +kernel
theorem dL_refused_342 : decode cL_refused 342 = .ok (.iconst 3, 1) := by decide +kernel
theorem dL_refused_343 : decode cL_refused 343 = .ok (.iconst (-1), 1) := by decide +kernel
theorem dL_refused_344 : decode cL_refused 344 = .ok (.iconst 0, 1) := by decide +kernel
theorem dL_refused_345 : decode cL_refused 345 = .ok (.invokevirtual 87, 3) := by decide +kernel
theorem dL_refused_348 : decode cL_refused 348 = .ok (.iconst (-1), 1) := by decide +kernel
theorem dL_refused_349 : decode cL_refused 349 = .ok (.if_icmp .ne 43, 3) := by decide +kernel
theorem dL_refused_352 : decode cL_refused 352 = .ok (.aload_n 0, 1) := by decide +kernel
theorem dL_refused_353 : decode cL_refused 353 = .ok (.iconst 0, 1) := by decide +kernel
theorem dL_refused_354 : decode cL_refused 354 = .ok (.iconst 0, 1) := by decide +kernel
theorem dL_refused_355 : decode cL_refused 355 = .ok (.invokevirtual 90, 3) := by decide +kernel
theorem dL_refused_358 : decode cL_refused 358 = .ok (.ifCond .ne 34, 3) := by decide +kernel
theorem dL_refused_361 : decode cL_refused 361 = .ok (.aload_n 0, 1) := by decide +kernel
theorem dL_refused_362 : decode cL_refused 362 = .ok (.bipush 6, 2) := by decide +kernel
theorem dL_refused_364 : decode cL_refused 364 = .ok (.iconst 0, 1) := by decide +kernel
theorem dL_refused_365 : decode cL_refused 365 = .ok (.invokevirtual 90, 3) := by decide +kernel
theorem dL_refused_368 : decode cL_refused 368 = .ok (.ifCond .ne 24, 3) := by decide +kernel
theorem dL_refused_371 : decode cL_refused 371 = .ok (.aload_n 0, 1) := by decide +kernel
theorem dL_refused_372 : decode cL_refused 372 = .ok (.iconst 3, 1) := by decide +kernel
theorem dL_refused_373 : decode cL_refused 373 = .ok (.iconst (-1), 1) := by decide +kernel
theorem dL_refused_374 : decode cL_refused 374 = .ok (.invokevirtual 90, 3) := by decide +kernel
theorem dL_refused_377 : decode cL_refused 377 = .ok (.ifCond .ne 15, 3) := by decide +kernel
theorem dL_refused_380 : decode cL_refused 380 = .ok (.aload_n 0, 1) := by decide +kernel
theorem dL_refused_381 : decode cL_refused 381 = .ok (.iconst 1, 1) := by decide +kernel
theorem dL_refused_382 : decode cL_refused 382 = .ok (.iconst 0, 1) := by decide +kernel
theorem dL_refused_383 : decode cL_refused 383 = .ok (.iconst 0, 1) := by decide +kernel
theorem dL_refused_384 : decode cL_refused 384 = .ok (.invokevirtual 87, 3) := by decide +kernel
theorem dL_refused_387 : decode cL_refused 387 = .ok (.bipush (-9), 2) := by decide +kernel
theorem dL_refused_389 : decode cL_refused 389 = .ok (.if_icmp .eq 5, 3) := by decide +kernel
theorem dL_refused_392 : decode cL_refused 392 = .ok (.iconst 0, 1) := by decide +kernel
theorem dL_refused_393 : decode cL_refused 393 = .ok (.ireturn, 1) := by decide +kernel
theorem dL_refused_394 : decode cL_refused 394 = .ok (.aload_n 0, 1) := by decide +kernel
theorem dL_refused_395 : decode cL_refused 395 = .ok (.iconst (-1), 1) := by decide +kernel
theorem dL_refused_396 : decode cL_refused 396 = .ok (.invokevirtual 93, 3) := by decide +kernel
theorem dL_refused_399 : decode cL_refused 399 = .ok (.ldc2_w 76, 3) := by decide +kernel
theorem dL_refused_402 : decode cL_refused 402 = .ok (.lcmp, 1) := by decide +kernel
theorem dL_refused_403 : decode cL_refused 403 = .ok (.ifCond .ne 105, 3) := by decide +kernel
theorem dL_refused_406 : decode cL_refused 406 = .ok (.aload_n 0, 1) := by decide +kernel
theorem dL_refused_407 : decode cL_refused 407 = .ok (.bipush 19, 2) := by decide +kernel
theorem dL_refused_409 : decode cL_refused 409 = .ok (.invokevirtual 93, 3) := by decide +kernel
theorem dL_refused_412 : decode cL_refused 412 = .ok (.ldc2_w 76, 3) := by decide +kernel
theorem dL_refused_415 : decode cL_refused 415 = .ok (.lcmp, 1) := by decide +kernel
theorem dL_refused_416 : decode cL_refused 416 = .ok (.ifCond .ne 92, 3) := by decide +kernel
theorem dL_refused_419 : decode cL_refused 419 = .ok (.aload_n 0, 1) := by decide +kernel
theorem dL_refused_420 : decode cL_refused 420 = .ok (.bipush 19, 2) := by decide +kernel
theorem dL_refused_422 : decode cL_refused 422 = .ok (.invokevirtual 96, 3) := by decide +kernel
theorem dL_refused_425 : decode cL_refused 425 = .ok (.ldc2_w 76, 3) := by decide +kernel
theorem dL_refused_428 : decode cL_refused 428 = .ok (.lcmp, 1) := by decide +kernel
theorem dL_refused_429 : decode cL_refused 429 = .ok (.ifCond .ne 79, 3) := by decide +kernel
theorem dL_refused_432 : decode cL_refused 432 = .ok (.aload_n 0, 1) := by decide +kernel
theorem dL_refused_433 : decode cL_refused 433 = .ok (.bipush 13, 2) := by decide +kernel
theorem dL_refused_435 : decode cL_refused 435 = .ok (.invokevirtual 99, 3) := by decide +kernel
theorem dL_refused_438 : decode cL_refused 438 = .ok (.ldc2_w 76, 3) := by decide +kernel
theorem dL_refused_441 : decode cL_refused 441 = .ok (.lcmp, 1) := by decide +kernel
theorem dL_refused_442 : decode cL_refused 442 = .ok (.ifCond .ne 66, 3) := by decide +kernel
theorem dL_refused_445 : decode cL_refused 445 = .ok (.aload_n 0, 1) := by decide +kernel
theorem dL_refused_446 : decode cL_refused 446 = .ok (.iconst (-1), 1) := by decide +kernel
theorem dL_refused_447 : decode cL_refused 447 = .ok (.invokevirtual 102, 3) := by decide +kernel
theorem dL_refused_450 : decode cL_refused 450 = .ok (.ldc2_w 76, 3) := by decide +kernel
theorem dL_refused_453 : decode cL_refused 453 = .ok (.lcmp, 1) := by decide +kernel
theorem dL_refused_454 : decode cL_refused 454 = .ok (.ifCond .ne 54, 3) := by decide +kernel
theorem dL_refused_457 : decode cL_refused 457 = .ok (.aload_n 0, 1) := by decide +kernel
theorem dL_refused_458 : decode cL_refused 458 = .ok (.bipush 13, 2) := by decide +kernel
theorem dL_refused_460 : decode cL_refused 460 = .ok (.invokevirtual 105, 3) := by decide +kernel
theorem dL_refused_463 : decode cL_refused 463 = .ok (.ldc2_w 76, 3) := by decide +kernel
theorem dL_refused_466 : decode cL_refused 466 = .ok (.lcmp, 1) := by decide +kernel
theorem dL_refused_467 : decode cL_refused 467 = .ok (.ifCond .ne 41, 3) := by decide +kernel
theorem dL_refused_470 : decode cL_refused 470 = .ok (.aload_n 0, 1) := by decide +kernel
theorem dL_refused_471 : decode cL_refused 471 = .ok (.iconst 3, 1) := by decide +kernel
theorem dL_refused_472 : decode cL_refused 472 = .ok (.invokevirtual 108, 3) := by decide +kernel
theorem dL_refused_475 : decode cL_refused 475 = .ok (.ldc2_w 76, 3) := by decide +kernel
theorem dL_refused_478 : decode cL_refused 478 = .ok (.lcmp, 1) := by decide +kernel
theorem dL_refused_479 : decode cL_refused 479 = .ok (.ifCond .ne 29, 3) := by decide +kernel
theorem dL_refused_482 : decode cL_refused 482 = .ok (.aload_n 0, 1) := by decide +kernel
theorem dL_refused_483 : decode cL_refused 483 = .ok (.bipush (-3), 2) := by decide +kernel
theorem dL_refused_485 : decode cL_refused 485 = .ok (.invokevirtual 108, 3) := by decide +kernel
theorem dL_refused_488 : decode cL_refused 488 = .ok (.ldc2_w 76, 3) := by decide +kernel
theorem dL_refused_491 : decode cL_refused 491 = .ok (.lcmp, 1) := by decide +kernel
theorem dL_refused_492 : decode cL_refused 492 = .ok (.ifCond .ne 16, 3) := by decide +kernel
theorem dL_refused_495 : decode cL_refused 495 = .ok (.aload_n 0, 1) := by decide +kernel
theorem dL_refused_496 : decode cL_refused 496 = .ok (.bipush 19, 2) := by decide +kernel
theorem dL_refused_498 : decode cL_refused 498 = .ok (.invokevirtual 111, 3) := by decide +kernel
theorem dL_refused_501 : decode cL_refused 501 = .ok (.ldc2_w 76, 3) := by decide +kernel
theorem dL_refused_504 : decode cL_refused 504 = .ok (.lcmp, 1) := by decide +kernel
theorem dL_refused_505 : decode cL_refused 505 = .ok (.ifCond .eq 5, 3) := by decide +kernel
theorem dL_refused_508 : decode cL_refused 508 = .ok (.iconst 0, 1) := by decide +kernel
theorem dL_refused_509 : decode cL_refused 509 = .ok (.ireturn, 1) := by decide +kernel
theorem dL_refused_510 : decode cL_refused 510 = .ok (.aload_n 0, 1) := by decide +kernel
theorem dL_refused_511 : decode cL_refused 511 = .ok (.invokestatic 57, 3) := by decide +kernel
theorem dL_refused_514 : decode cL_refused 514 = .ok (.lload_n 1, 1) := by decide +kernel
theorem dL_refused_515 : decode cL_refused 515 = .ok (.lcmp, 1) := by decide +kernel
theorem dL_refused_516 : decode cL_refused 516 = .ok (.ifCond .ne 7, 3) := by decide +kernel
theorem dL_refused_519 : decode cL_refused 519 = .ok (.iconst 1, 1) := by decide +kernel
theorem dL_refused_520 : decode cL_refused 520 = .ok (.goto 4, 3) := by decide +kernel
theorem dL_refused_523 : decode cL_refused 523 = .ok (.iconst 0, 1) := by decide +kernel
theorem dL_refused_524 : decode cL_refused 524 = .ok (.ireturn, 1) := by decide +kernel
theorem dL_types_0 : decode cL_types 0 = .ok (.iconst 0, 1) := by decide +kernel
theorem dL_types_1 : decode cL_types 1 = .ok (.istore_n 3, 1) := by decide +kernel
theorem dL_types_2 : decode cL_types 2 = .ok (.bipush 7, 2) := by decide +kernel
theorem dL_types_4 : decode cL_types 4 = .ok (.istore 4, 2) := by decide +kernel
theorem dL_types_6 : decode cL_types 6 = .ok (.iload 4, 2) := by decide +kernel
theorem dL_types_8 : decode cL_types 8 = .ok (.ifCond .lt 35, 3) := by decide +kernel
theorem dL_types_11 : decode cL_types 11 = .ok (.lload_n 1, 1) := by decide +kernel
theorem dL_types_12 : decode cL_types 12 = .ok (.bipush 8, 2) := by decide +kernel
theorem dL_types_14 : decode cL_types 14 = .ok (.iload 4, 2) := by decide +kernel
theorem dL_types_16 : decode cL_types 16 = .ok (.imul, 1) := by decide +kernel
theorem dL_types_17 : decode cL_types 17 = .ok (.lshr, 1) := by decide +kernel
theorem dL_types_18 : decode cL_types 18 = .ok (.ldc2_w 114, 3) := by decide +kernel
theorem dL_types_21 : decode cL_types 21 = .ok (.land, 1) := by decide +kernel
theorem dL_types_22 : decode cL_types 22 = .ok (.l2i, 1) := by decide +kernel
theorem dL_types_23 : decode cL_types 23 = .ok (.istore 5, 2) := by decide +kernel
theorem dL_types_25 : decode cL_types 25 = .ok (.iload 5, 2) := by decide +kernel
theorem dL_types_27 : decode cL_types 27 = .ok (.ifCond .eq 10, 3) := by decide +kernel
theorem dL_types_30 : decode cL_types 30 = .ok (.aload_n 0, 1) := by decide +kernel
theorem dL_types_31 : decode cL_types 31 = .ok (.iload 5, 2) := by decide +kernel
theorem dL_types_33 : decode cL_types 33 = .ok (.invokevirtual 67, 3) := by decide +kernel
theorem dL_types_36 : decode cL_types 36 = .ok (.istore_n 3, 1) := by decide +kernel
theorem dL_types_37 : decode cL_types 37 = .ok (.iinc 4 (-1), 3) := by decide +kernel
theorem dL_types_40 : decode cL_types 40 = .ok (.goto (-34), 3) := by decide +kernel
theorem dL_types_43 : decode cL_types 43 = .ok (.iload_n 3, 1) := by decide +kernel
theorem dL_types_44 : decode cL_types 44 = .ok (.ireturn, 1) := by decide +kernel
theorem dL_texts_0 : decode cL_texts 0 = .ok (.aload_n 0, 1) := by decide +kernel
theorem dL_texts_1 : decode cL_texts 1 = .ok (.astore_n 1, 1) := by decide +kernel
theorem dL_texts_2 : decode cL_texts 2 = .ok (.aload_n 1, 1) := by decide +kernel
theorem dL_texts_3 : decode cL_texts 3 = .ok (.iconst 4, 1) := by decide +kernel
theorem dL_texts_4 : decode cL_texts 4 = .ok (.invokevirtual 15, 3) := by decide +kernel
theorem dL_texts_7 : decode cL_texts 7 = .ok (.pop, 1) := by decide +kernel
theorem dL_texts_8 : decode cL_texts 8 = .ok (.aload_n 1, 1) := by decide +kernel
theorem dL_texts_9 : decode cL_texts 9 = .ok (.ldc2_w 116, 3) := by decide +kernel
theorem dL_texts_12 : decode cL_texts 12 = .ok (.invokestatic 118, 3) := by decide +kernel
theorem dL_texts_15 : decode cL_texts 15 = .ok (.pop, 1) := by decide +kernel
theorem dL_texts_16 : decode cL_texts 16 = .ok (.aload_n 1, 1) := by decide +kernel
theorem dL_texts_17 : decode cL_texts 17 = .ok (.ldc2_w 122, 3) := by decide +kernel
theorem dL_texts_20 : decode cL_texts 20 = .ok (.invokestatic 118, 3) := by decide +kernel
theorem dL_texts_23 : decode cL_texts 23 = .ok (.bipush 16, 2) := by decide +kernel
theorem dL_texts_25 : decode cL_texts 25 = .ok (.if_icmp .ne 70, 3) := by decide +kernel
theorem dL_texts_28 : decode cL_texts 28 = .ok (.aload_n 1, 1) := by decide +kernel
theorem dL_texts_29 : decode cL_texts 29 = .ok (.invokevirtual 124, 3) := by decide +kernel
theorem dL_texts_32 : decode cL_texts 32 = .ok (.iconst 3, 1) := by decide +kernel
theorem dL_texts_33 : decode cL_texts 33 = .ok (.if_icmp .ne 62, 3) := by decide +kernel
theorem dL_texts_36 : decode cL_texts 36 = .ok (.aload_n 1, 1) := by decide +kernel
theorem dL_texts_37 : decode cL_texts 37 = .ok (.invokevirtual 41, 3) := by decide +kernel
theorem dL_texts_40 : decode cL_texts 40 = .ok (.iconst 3, 1) := by decide +kernel
theorem dL_texts_41 : decode cL_texts 41 = .ok (.if_icmp .ne 54, 3) := by decide +kernel
theorem dL_texts_44 : decode cL_texts 44 = .ok (.aload_n 1, 1) := by decide +kernel
theorem dL_texts_45 : decode cL_texts 45 = .ok (.iconst 2, 1) := by decide +kernel
theorem dL_texts_46 : decode cL_texts 46 = .ok (.invokevirtual 44, 3) := by decide +kernel
theorem dL_texts_49 : decode cL_texts 49 = .ok (.iconst 2, 1) := by decide +kernel
theorem dL_texts_50 : decode cL_texts 50 = .ok (.if_icmp .ne 45, 3) := by decide +kernel
theorem dL_texts_53 : decode cL_texts 53 = .ok (.aload_n 1, 1) := by decide +kernel
theorem dL_texts_54 : decode cL_texts 54 = .ok (.iconst 5, 1) := by decide +kernel
theorem dL_texts_55 : decode cL_texts 55 = .ok (.invokevirtual 44, 3) := by decide +kernel
theorem dL_texts_58 : decode cL_texts 58 = .ok (.iconst 2, 1) := by decide +kernel
theorem dL_texts_59 : decode cL_texts 59 = .ok (.if_icmp .ne 36, 3) := by decide +kernel
theorem dL_texts_62 : decode cL_texts 62 = .ok (.aload_n 1, 1) := by decide +kernel
theorem dL_texts_63 : decode cL_texts 63 = .ok (.iconst 3, 1) := by decide +kernel
theorem dL_texts_64 : decode cL_texts 64 = .ok (.invokevirtual 47, 3) := by decide +kernel
theorem dL_texts_67 : decode cL_texts 67 = .ok (.ldc2_w 127, 3) := by decide +kernel
theorem dL_texts_70 : decode cL_texts 70 = .ok (.lcmp, 1) := by decide +kernel
theorem dL_texts_71 : decode cL_texts 71 = .ok (.ifCond .ne 24, 3) := by decide +kernel
theorem dL_texts_74 : decode cL_texts 74 = .ok (.aload_n 1, 1) := by decide +kernel
theorem dL_texts_75 : decode cL_texts 75 = .ok (.invokevirtual 124, 3) := by decide +kernel
theorem dL_texts_78 : decode cL_texts 78 = .ok (.ifCond .ne 17, 3) := by decide +kernel
theorem dL_texts_81 : decode cL_texts 81 = .ok (.aload_n 1, 1) := by decide +kernel
theorem dL_texts_82 : decode cL_texts 82 = .ok (.invokevirtual 41, 3) := by decide +kernel
theorem dL_texts_85 : decode cL_texts 85 = .ok (.ifCond .ne 10, 3) := by decide +kernel
theorem dL_texts_88 : decode cL_texts 88 = .ok (.aload_n 1, 1) := by decide +kernel
theorem dL_texts_89 : decode cL_texts 89 = .ok (.invokevirtual 129, 3) := by decide +kernel
theorem dL_texts_92 : decode cL_texts 92 = .ok (.ifCond .eq 5, 3) := by decide +kernel
theorem dL_texts_95 : decode cL_texts 95 = .ok (.iconst 0, 1) := by decide +kernel
theorem dL_texts_96 : decode cL_texts 96 = .ok (.ireturn, 1) := by decide +kernel
theorem dL_texts_97 : decode cL_texts 97 = .ok (.aload_n 1, 1) := by decide +kernel
theorem dL_texts_98 : decode cL_texts 98 = .ok (.ldc2_w 132, 3) := by decide +kernel
theorem dL_texts_101 : decode cL_texts 101 = .ok (.invokestatic 118, 3) := by decide +kernel
theorem dL_texts_104 : decode cL_texts 104 = .ok (.iconst 4, 1) := by decide +kernel
theorem dL_texts_105 : decode cL_texts 105 = .ok (.if_icmp .ne 48, 3) := by decide +kernel
theorem dL_texts_108 : decode cL_texts 108 = .ok (.aload_n 1, 1) := by decide +kernel
theorem dL_texts_109 : decode cL_texts 109 = .ok (.invokevirtual 124, 3) := by decide +kernel
theorem dL_texts_112 : decode cL_texts 112 = .ok (.bipush (-12), 2) := by decide +kernel
theorem dL_texts_114 : decode cL_texts 114 = .ok (.if_icmp .ne 39, 3) := by decide +kernel
theorem dL_texts_117 : decode cL_texts 117 = .ok (.aload_n 1, 1) := by decide +kernel
theorem dL_texts_118 : decode cL_texts 118 = .ok (.invokevirtual 129, 3) := by decide +kernel
theorem dL_texts_121 : decode cL_texts 121 = .ok (.iconst 4, 1) := by decide +kernel
theorem dL_texts_122 : decode cL_texts 122 = .ok (.if_icmp .ne 31, 3) := by decide +kernel
theorem dL_texts_125 : decode cL_texts 125 = .ok (.aload_n 1, 1) := by decide +kernel
theorem dL_texts_126 : decode cL_texts 126 = .ok (.ldc2_w 134, 3) := by decide +kernel
theorem dL_texts_129 : decode cL_texts 129 = .ok (.invokestatic 118, 3) := by decide +kernel
theorem dL_texts_132 : decode cL_texts 132 = .ok (.iconst 4, 1) := by decide +kernel
theorem dL_texts_133 : decode cL_texts 133 = .ok (.if_icmp .ne 20, 3) := by decide +kernel
theorem dL_texts_136 : decode cL_texts 136 = .ok (.aload_n 1, 1) := by decide +kernel
theorem dL_texts_137 : decode cL_texts 137 = .ok (.invokevirtual 124, 3) := by decide +kernel
theorem dL_texts_140 : decode cL_texts 140 = .ok (.bipush (-12), 2) := by decide +kernel
theorem dL_texts_142 : decode cL_texts 142 = .ok (.if_icmp .ne 11, 3) := by decide +kernel
theorem dL_texts_145 : decode cL_texts 145 = .ok (.aload_n 1, 1) := by decide +kernel
theorem dL_texts_146 : decode cL_texts 146 = .ok (.invokevirtual 129, 3) := by decide +kernel
theorem dL_texts_149 : decode cL_texts 149 = .ok (.iconst 4, 1) := by decide +kernel
theorem dL_texts_150 : decode cL_texts 150 = .ok (.if_icmp .eq 5, 3) := by decide +kernel
theorem dL_texts_153 : decode cL_texts 153 = .ok (.iconst 0, 1) := by decide +kernel
theorem dL_texts_154 : decode cL_texts 154 = .ok (.ireturn, 1) := by decide +kernel
theorem dL_texts_155 : decode cL_texts 155 = .ok (.aload_n 1, 1) := by decide +kernel
theorem dL_texts_156 : decode cL_texts 156 = .ok (.ldc2_w 136, 3) := by decide +kernel
theorem dL_texts_159 : decode cL_texts 159 = .ok (.invokestatic 118, 3) := by decide +kernel
theorem dL_texts_162 : decode cL_texts 162 = .ok (.iconst 2, 1) := by decide +kernel
theorem dL_texts_163 : decode cL_texts 163 = .ok (.if_icmp .ne 76, 3) := by decide +kernel
theorem dL_texts_166 : decode cL_texts 166 = .ok (.aload_n 1, 1) := by decide +kernel
theorem dL_texts_167 : decode cL_texts 167 = .ok (.invokevirtual 124, 3) := by decide +kernel
theorem dL_texts_170 : decode cL_texts 170 = .ok (.bipush (-11), 2) := by decide +kernel
theorem dL_texts_172 : decode cL_texts 172 = .ok (.if_icmp .ne 67, 3) := by decide +kernel
theorem dL_texts_175 : decode cL_texts 175 = .ok (.aload_n 1, 1) := by decide +kernel
theorem dL_texts_176 : decode cL_texts 176 = .ok (.invokevirtual 129, 3) := by decide +kernel
theorem dL_texts_179 : decode cL_texts 179 = .ok (.iconst 2, 1) := by decide +kernel
theorem dL_texts_180 : decode cL_texts 180 = .ok (.if_icmp .ne 59, 3) := by decide +kernel
theorem dL_texts_183 : decode cL_texts 183 = .ok (.aload_n 1, 1) := by decide +kernel
theorem dL_texts_184 : decode cL_texts 184 = .ok (.ldc2_w 138, 3) := by decide +kernel
theorem dL_texts_187 : decode cL_texts 187 = .ok (.invokestatic 118, 3) := by decide +kernel
theorem dL_texts_190 : decode cL_texts 190 = .ok (.iconst 4, 1) := by decide +kernel
theorem dL_texts_191 : decode cL_texts 191 = .ok (.if_icmp .ne 48, 3) := by decide +kernel
theorem dL_texts_194 : decode cL_texts 194 = .ok (.aload_n 1, 1) := by decide +kernel
theorem dL_texts_195 : decode cL_texts 195 = .ok (.invokevirtual 124, 3) := by decide +kernel
theorem dL_texts_198 : decode cL_texts 198 = .ok (.bipush (-14), 2) := by decide +kernel
theorem dL_texts_200 : decode cL_texts 200 = .ok (.if_icmp .ne 39, 3) := by decide +kernel
theorem dL_texts_203 : decode cL_texts 203 = .ok (.aload_n 1, 1) := by decide +kernel
theorem dL_texts_204 : decode cL_texts 204 = .ok (.invokevirtual 129, 3) := by decide +kernel
theorem dL_texts_207 : decode cL_texts 207 = .ok (.iconst 4, 1) := by decide +kernel
theorem dL_texts_208 : decode cL_texts 208 = .ok (.if_icmp .ne 31, 3) := by decide +kernel
theorem dL_texts_211 : decode cL_texts 211 = .ok (.aload_n 1, 1) := by decide +kernel
theorem dL_texts_212 : decode cL_texts 212 = .ok (.ldc2_w 140, 3) := by decide +kernel
theorem dL_texts_215 : decode cL_texts 215 = .ok (.invokestatic 118, 3) := by decide +kernel
theorem dL_texts_218 : decode cL_texts 218 = .ok (.iconst 4, 1) := by decide +kernel
theorem dL_texts_219 : decode cL_texts 219 = .ok (.if_icmp .ne 20, 3) := by decide +kernel
theorem dL_texts_222 : decode cL_texts 222 = .ok (.aload_n 1, 1) := by decide +kernel
theorem dL_texts_223 : decode cL_texts 223 = .ok (.invokevirtual 124, 3) := by decide +kernel
theorem dL_texts_226 : decode cL_texts 226 = .ok (.bipush (-13), 2) := by decide +kernel
theorem dL_texts_228 : decode cL_texts 228 = .ok (.if_icmp .ne 11, 3) := by decide +kernel
theorem dL_texts_231 : decode cL_texts 231 = .ok (.aload_n 1, 1) := by decide +kernel
theorem dL_texts_232 : decode cL_texts 232 = .ok (.invokevirtual 129, 3) := by decide +kernel
theorem dL_texts_235 : decode cL_texts 235 = .ok (.iconst 4, 1) := by decide +kernel
theorem dL_texts_236 : decode cL_texts 236 = .ok (.if_icmp .eq 5, 3) := by decide +kernel
theorem dL_texts_239 : decode cL_texts 239 = .ok (.iconst 0, 1) := by decide +kernel
theorem dL_texts_240 : decode cL_texts 240 = .ok (.ireturn, 1) := by decide +kernel
theorem dL_texts_241 : decode cL_texts 241 = .ok (.iconst 0, 1) := by decide +kernel
theorem dL_texts_242 : decode cL_texts 242 = .ok (.istore_n 2, 1) := by decide +kernel
theorem dL_texts_243 : decode cL_texts 243 = .ok (.iload_n 2, 1) := by decide +kernel
theorem dL_texts_244 : decode cL_texts 244 = .ok (.bipush 9, 2) := by decide +kernel
theorem dL_texts_246 : decode cL_texts 246 = .ok (.if_icmp .ge 17, 3) := by decide +kernel
theorem dL_texts_249 : decode cL_texts 249 = .ok (.aload_n 1, 1) := by decide +kernel
theorem dL_texts_250 : decode cL_texts 250 = .ok (.ldc2_w 142, 3) := by decide +kernel
theorem dL_texts_253 : decode cL_texts 253 = .ok (.invokestatic 118, 3) := by decide +kernel
theorem dL_texts_256 : decode cL_texts 256 = .ok (.pop, 1) := by decide +kernel
theorem dL_texts_257 : decode cL_texts 257 = .ok (.iinc 2 1, 3) := by decide +kernel
theorem dL_texts_260 : decode cL_texts 260 = .ok (.goto (-17), 3) := by decide +kernel
theorem dL_texts_263 : decode cL_texts 263 = .ok (.aload_n 1, 1) := by decide +kernel
theorem dL_texts_264 : decode cL_texts 264 = .ok (.ldc2_w 144, 3) := by decide +kernel
theorem dL_texts_267 : decode cL_texts 267 = .ok (.invokestatic 118, 3) := by decide +kernel
theorem dL_texts_270 : decode cL_texts 270 = .ok (.bipush 37, 2) := by decide +kernel
theorem dL_texts_272 : decode cL_texts 272 = .ok (.if_icmp .ne 31, 3) := by decide +kernel
theorem dL_texts_275 : decode cL_texts 275 = .ok (.aload_n 1, 1) := by decide +kernel
theorem dL_texts_276 : decode cL_texts 276 = .ok (.ldc2_w 146, 3) := by decide +kernel
theorem dL_texts_279 : decode cL_texts 279 = .ok (.invokestatic 118, 3) := by decide +kernel
theorem dL_texts_282 : decode cL_texts 282 = .ok (.bipush 38, 2) := by decide +kernel
theorem dL_texts_284 : decode cL_texts 284 = .ok (.if_icmp .ne 19, 3) := by decide +kernel
theorem dL_texts_287 : decode cL_texts 287 = .ok (.aload_n 1, 1) := by decide +kernel
theorem dL_texts_288 : decode cL_texts 288 = .ok (.invokevirtual 124, 3) := by decide +kernel
theorem dL_texts_291 : decode cL_texts 291 = .ok (.bipush (-47), 2) := by decide +kernel
theorem dL_texts_293 : decode cL_texts 293 = .ok (.if_icmp .ne 10, 3) := by decide +kernel
theorem dL_texts_296 : decode cL_texts 296 = .ok (.aload_n 1, 1) := by decide +kernel
theorem dL_texts_297 : decode cL_texts 297 = .ok (.invokevirtual 41, 3) := by decide +kernel
theorem dL_texts_300 : decode cL_texts 300 = .ok (.ifCond .eq 5, 3) := by decide +kernel
theorem dL_texts_303 : decode cL_texts 303 = .ok (.iconst 0, 1) := by decide +kernel
theorem dL_texts_304 : decode cL_texts 304 = .ok (.ireturn, 1) := by decide +kernel
theorem dL_texts_305 : decode cL_texts 305 = .ok (.aload_n 1, 1) := by decide +kernel
theorem dL_texts_306 : decode cL_texts 306 = .ok (.bipush 32, 2) := by decide +kernel
theorem dL_texts_308 : decode cL_texts 308 = .ok (.invokevirtual 67, 3) := by decide +kernel
theorem dL_texts_311 : decode cL_texts 311 = .ok (.ifCond .le 12, 3) := by decide +kernel
theorem dL_texts_314 : decode cL_texts 314 = .ok (.aload_n 1, 1) := by decide +kernel
theorem dL_texts_315 : decode cL_texts 315 = .ok (.iconst 0, 1) := by decide +kernel
theorem dL_texts_316 : decode cL_texts 316 = .ok (.invokevirtual 73, 3) := by decide +kernel
theorem dL_texts_319 : decode cL_texts 319 = .ok (.pop, 1) := by decide +kernel
theorem dL_texts_320 : decode cL_texts 320 = .ok (.goto (-15), 3) := by decide +kernel
theorem dL_texts_323 : decode cL_texts 323 = .ok (.aload_n 1, 1) := by decide +kernel
theorem dL_texts_324 : decode cL_texts 324 = .ok (.sipush 300, 3) := by decide +kernel
theorem dL_texts_327 : decode cL_texts 327 = .ok (.invokevirtual 67, 3) := by decide +kernel
theorem dL_texts_330 : decode cL_texts 330 = .ok (.iconst (-1), 1) := by decide +kernel
theorem dL_texts_331 : decode cL_texts 331 = .ok (.if_icmp .ne 23, 3) := by decide +kernel
theorem dL_texts_334 : decode cL_texts 334 = .ok (.aload_n 1, 1) := by decide +kernel
theorem dL_texts_335 : decode cL_texts 335 = .ok (.bipush 48, 2) := by decide +kernel
theorem dL_texts_337 : decode cL_texts 337 = .ok (.invokevirtual 67, 3) := by decide +kernel
theorem dL_texts_340 : decode cL_texts 340 = .ok (.bipush (-3), 2) := by decide +kernel
theorem dL_texts_342 : decode cL_texts 342 = .ok (.if_icmp .ne 12, 3) := by decide +kernel
theorem dL_texts_345 : decode cL_texts 345 = .ok (.aload_n 1, 1) := by decide +kernel
theorem dL_texts_346 : decode cL_texts 346 = .ok (.invokevirtual 129, 3) := by decide +kernel
theorem dL_texts_349 : decode cL_texts 349 = .ok (.bipush 60, 2) := by decide +kernel
theorem dL_texts_351 : decode cL_texts 351 = .ok (.if_icmp .eq 5, 3) := by decide +kernel
theorem dL_texts_354 : decode cL_texts 354 = .ok (.iconst 0, 1) := by decide +kernel
theorem dL_texts_355 : decode cL_texts 355 = .ok (.ireturn, 1) := by decide +kernel
theorem dL_texts_356 : decode cL_texts 356 = .ok (.iconst 0, 1) := by decide +kernel
theorem dL_texts_357 : decode cL_texts 357 = .ok (.istore_n 2, 1) := by decide +kernel
theorem dL_texts_358 : decode cL_texts 358 = .ok (.iload_n 2, 1) := by decide +kernel
theorem dL_texts_359 : decode cL_texts 359 = .ok (.bipush 9, 2) := by decide +kernel
theorem dL_texts_361 : decode cL_texts 361 = .ok (.if_icmp .ge 17, 3) := by decide +kernel
theorem dL_texts_364 : decode cL_texts 364 = .ok (.aload_n 1, 1) := by decide +kernel
theorem dL_texts_365 : decode cL_texts 365 = .ok (.ldc2_w 142, 3) := by decide +kernel
theorem dL_texts_368 : decode cL_texts 368 = .ok (.invokestatic 118, 3) := by decide +kernel
theorem dL_texts_371 : decode cL_texts 371 = .ok (.pop, 1) := by decide +kernel
theorem dL_texts_372 : decode cL_texts 372 = .ok (.iinc 2 1, 3) := by decide +kernel
theorem dL_texts_375 : decode cL_texts 375 = .ok (.goto (-17), 3) := by decide +kernel
theorem dL_texts_378 : decode cL_texts 378 = .ok (.aload_n 1, 1) := by decide +kernel
theorem dL_texts_379 : decode cL_texts 379 = .ok (.invokevirtual 124, 3) := by decide +kernel
theorem dL_texts_382 : decode cL_texts 382 = .ok (.bipush 9, 2) := by decide +kernel
theorem dL_texts_384 : decode cL_texts 384 = .ok (.if_icmp .ne 79, 3) := by decide +kernel
theorem dL_texts_387 : decode cL_texts 387 = .ok (.aload_n 1, 1) := by decide +kernel
theorem dL_texts_388 : decode cL_texts 388 = .ok (.iconst 2, 1) := by decide +kernel
theorem dL_texts_389 : decode cL_texts 389 = .ok (.invokevirtual 51, 3) := by decide +kernel
theorem dL_texts_392 : decode cL_texts 392 = .ok (.ldc2_w 148, 3) := by decide +kernel
theorem dL_texts_395 : decode cL_texts 395 = .ok (.lcmp, 1) := by decide +kernel
theorem dL_texts_396 : decode cL_texts 396 = .ok (.ifCond .ne 67, 3) := by decide +kernel
theorem dL_texts_399 : decode cL_texts 399 = .ok (.aload_n 1, 1) := by decide +kernel
theorem dL_texts_400 : decode cL_texts 400 = .ok (.bipush 18, 2) := by decide +kernel
theorem dL_texts_402 : decode cL_texts 402 = .ok (.invokevirtual 51, 3) := by decide +kernel
theorem dL_texts_405 : decode cL_texts 405 = .ok (.ldc2_w 150, 3) := by decide +kernel
theorem dL_texts_408 : decode cL_texts 408 = .ok (.lcmp, 1) := by decide +kernel
theorem dL_texts_409 : decode cL_texts 409 = .ok (.ifCond .ne 54, 3) := by decide +kernel
theorem dL_texts_412 : decode cL_texts 412 = .ok (.aload_n 1, 1) := by decide +kernel
theorem dL_texts_413 : decode cL_texts 413 = .ok (.iconst 2, 1) := by decide +kernel
theorem dL_texts_414 : decode cL_texts 414 = .ok (.iconst 3, 1) := by decide +kernel
theorem dL_texts_415 : decode cL_texts 415 = .ok (.iconst 1, 1) := by decide +kernel
theorem dL_texts_416 : decode cL_texts 416 = .ok (.invokevirtual 29, 3) := by decide +kernel
theorem dL_texts_419 : decode cL_texts 419 = .ok (.bipush (-3), 2) := by decide +kernel
theorem dL_texts_421 : decode cL_texts 421 = .ok (.if_icmp .ne 42, 3) := by decide +kernel
theorem dL_texts_424 : decode cL_texts 424 = .ok (.aload_n 1, 1) := by decide +kernel
theorem dL_texts_425 : decode cL_texts 425 = .ok (.iconst 2, 1) := by decide +kernel
theorem dL_texts_426 : decode cL_texts 426 = .ok (.iconst 2, 1) := by decide +kernel
theorem dL_texts_427 : decode cL_texts 427 = .ok (.iconst 1, 1) := by decide +kernel
theorem dL_texts_428 : decode cL_texts 428 = .ok (.invokevirtual 29, 3) := by decide +kernel
theorem dL_texts_431 : decode cL_texts 431 = .ok (.iconst (-1), 1) := by decide +kernel
theorem dL_texts_432 : decode cL_texts 432 = .ok (.if_icmp .ne 31, 3) := by decide +kernel
theorem dL_texts_435 : decode cL_texts 435 = .ok (.aload_n 1, 1) := by decide +kernel
theorem dL_texts_436 : decode cL_texts 436 = .ok (.invokevirtual 152, 3) := by decide +kernel
theorem dL_texts_439 : decode cL_texts 439 = .ok (.bipush 18, 2) := by decide +kernel
theorem dL_texts_441 : decode cL_texts 441 = .ok (.if_icmp .ne 22, 3) := by decide +kernel
theorem dL_texts_444 : decode cL_texts 444 = .ok (.aload_n 1, 1) := by decide +kernel
theorem dL_texts_445 : decode cL_texts 445 = .ok (.invokevirtual 155, 3) := by decide +kernel
theorem dL_texts_448 : decode cL_texts 448 = .ok (.ifCond .ne 15, 3) := by decide +kernel
theorem dL_texts_451 : decode cL_texts 451 = .ok (.aload_n 1, 1) := by decide +kernel
theorem dL_texts_452 : decode cL_texts 452 = .ok (.invokevirtual 158, 3) := by decide +kernel
theorem dL_texts_455 : decode cL_texts 455 = .ok (.iconst 3, 1) := by decide +kernel
theorem dL_texts_456 : decode cL_texts 456 = .ok (.if_icmp .ne 7, 3) := by decide +kernel
theorem dL_texts_459 : decode cL_texts 459 = .ok (.iconst 1, 1) := by decide +kernel
theorem dL_texts_460 : decode cL_texts 460 = .ok (.goto 4, 3) := by decide +kernel
theorem dL_texts_463 : decode cL_texts 463 = .ok (.iconst 0, 1) := by decide +kernel
theorem dL_texts_464 : decode cL_texts 464 = .ok (.ireturn, 1) := by decide +kernel
theorem dL_known_0 : decode cL_known 0 = .ok (.aload_n 0, 1) := by decide +kernel
theorem dL_known_1 : decode cL_known 1 = .ok (.iconst 3, 1) := by decide +kernel
theorem dL_known_2 : decode cL_known 2 = .ok (.invokevirtual 15, 3) := by decide +kernel
theorem dL_known_5 : decode cL_known 5 = .ok (.pop, 1) := by decide +kernel
theorem dL_known_6 : decode cL_known 6 = .ok (.aload_n 0, 1) := by decide +kernel
theorem dL_known_7 : decode cL_known 7 = .ok (.invokevirtual 161, 3) := by decide +kernel
theorem dL_known_10 : decode cL_known 10 = .ok (.bipush (-9), 2) := by decide +kernel
theorem dL_known_12 : decode cL_known 12 = .ok (.if_icmp .ne 96, 3) := by decide +kernel
theorem dL_known_15 : decode cL_known 15 = .ok (.aload_n 0, 1) := by decide +kernel
theorem dL_known_16 : decode cL_known 16 = .ok (.invokevirtual 164, 3) := by decide +kernel
theorem dL_known_19 : decode cL_known 19 = .ok (.bipush (-9), 2) := by decide +kernel
theorem dL_known_21 : decode cL_known 21 = .ok (.if_icmp .ne 87, 3) := by decide +kernel
theorem dL_known_24 : decode cL_known 24 = .ok (.aload_n 0, 1) := by decide +kernel
theorem dL_known_25 : decode cL_known 25 = .ok (.iconst 0, 1) := by decide +kernel
theorem dL_known_26 : decode cL_known 26 = .ok (.invokevirtual 93, 3) := by decide +kernel
theorem dL_known_29 : decode cL_known 29 = .ok (.lconst 1, 1) := by decide +kernel
theorem dL_known_30 : decode cL_known 30 = .ok (.lcmp, 1) := by decide +kernel
theorem dL_known_31 : decode cL_known 31 = .ok (.ifCond .ne 77, 3) := by decide +kernel
theorem dL_known_34 : decode cL_known 34 = .ok (.aload_n 0, 1) := by decide +kernel
theorem dL_known_35 : decode cL_known 35 = .ok (.bipush 6, 2) := by decide +kernel
theorem dL_known_37 : decode cL_known 37 = .ok (.invokevirtual 99, 3) := by decide +kernel
theorem dL_known_40 : decode cL_known 40 = .ok (.ldc2_w 167, 3) := by decide +kernel
theorem dL_known_43 : decode cL_known 43 = .ok (.lcmp, 1) := by decide +kernel
theorem dL_known_44 : decode cL_known 44 = .ok (.ifCond .ne 64, 3) := by decide +kernel
theorem dL_known_47 : decode cL_known 47 = .ok (.aload_n 0, 1) := by decide +kernel
theorem dL_known_48 : decode cL_known 48 = .ok (.iconst 0, 1) := by decide +kernel
theorem dL_known_49 : decode cL_known 49 = .ok (.invokevirtual 102, 3) := by decide +kernel
theorem dL_known_52 : decode cL_known 52 = .ok (.lconst 1, 1) := by decide +kernel
theorem dL_known_53 : decode cL_known 53 = .ok (.lcmp, 1) := by decide +kernel
theorem dL_known_54 : decode cL_known 54 = .ok (.ifCond .ne 54, 3) := by decide +kernel
theorem dL_known_57 : decode cL_known 57 = .ok (.aload_n 0, 1) := by decide +kernel
theorem dL_known_58 : decode cL_known 58 = .ok (.iconst 2, 1) := by decide +kernel
theorem dL_known_59 : decode cL_known 59 = .ok (.invokevirtual 102, 3) := by decide +kernel
theorem dL_known_62 : decode cL_known 62 = .ok (.lconst 0, 1) := by decide +kernel
theorem dL_known_63 : decode cL_known 63 = .ok (.lcmp, 1) := by decide +kernel
theorem dL_known_64 : decode cL_known 64 = .ok (.ifCond .ne 44, 3) := by decide +kernel
theorem dL_known_67 : decode cL_known 67 = .ok (.aload_n 0, 1) := by decide +kernel
theorem dL_known_68 : decode cL_known 68 = .ok (.invokevirtual 152, 3) := by decide +kernel
theorem dL_known_71 : decode cL_known 71 = .ok (.ifCond .ne 37, 3) := by decide +kernel
theorem dL_known_74 : decode cL_known 74 = .ok (.aload_n 0, 1) := by decide +kernel
theorem dL_known_75 : decode cL_known 75 = .ok (.invokevirtual 54, 3) := by decide +kernel
theorem dL_known_78 : decode cL_known 78 = .ok (.iconst 1, 1) := by decide +kernel
theorem dL_known_79 : decode cL_known 79 = .ok (.if_icmp .ne 29, 3) := by decide +kernel
theorem dL_known_82 : decode cL_known 82 = .ok (.aload_n 0, 1) := by decide +kernel
theorem dL_known_83 : decode cL_known 83 = .ok (.invokevirtual 158, 3) := by decide +kernel
theorem dL_known_86 : decode cL_known 86 = .ok (.iconst 3, 1) := by decide +kernel
theorem dL_known_87 : decode cL_known 87 = .ok (.if_icmp .ne 21, 3) := by decide +kernel
theorem dL_known_90 : decode cL_known 90 = .ok (.aload_n 0, 1) := by decide +kernel
theorem dL_known_91 : decode cL_known 91 = .ok (.invokevirtual 169, 3) := by decide +kernel
theorem dL_known_94 : decode cL_known 94 = .ok (.ifCond .ne 14, 3) := by decide +kernel
theorem dL_known_97 : decode cL_known 97 = .ok (.aload_n 0, 1) := by decide +kernel
theorem dL_known_98 : decode cL_known 98 = .ok (.bipush 18, 2) := by decide +kernel
theorem dL_known_100 : decode cL_known 100 = .ok (.invokevirtual 51, 3) := by decide +kernel
theorem dL_known_103 : decode cL_known 103 = .ok (.lconst 0, 1) := by decide +kernel
theorem dL_known_104 : decode cL_known 104 = .ok (.lcmp, 1) := by decide +kernel
theorem dL_known_105 : decode cL_known 105 = .ok (.ifCond .eq 5, 3) := by decide +kernel
theorem dL_known_108 : decode cL_known 108 = .ok (.iconst 0, 1) := by decide +kernel
theorem dL_known_109 : decode cL_known 109 = .ok (.ireturn, 1) := by decide +kernel
theorem dL_known_110 : decode cL_known 110 = .ok (.aload_n 0, 1) := by decide +kernel
theorem dL_known_111 : decode cL_known 111 = .ok (.iconst 0, 1) := by decide +kernel
theorem dL_known_112 : decode cL_known 112 = .ok (.iconst 1, 1) := by decide +kernel
theorem dL_known_113 : decode cL_known 113 = .ok (.iconst 1, 1) := by decide +kernel
theorem dL_known_114 : decode cL_known 114 = .ok (.invokevirtual 29, 3) := by decide +kernel
theorem dL_known_117 : decode cL_known 117 = .ok (.ifCond .ne 40, 3) := by decide +kernel
theorem dL_known_120 : decode cL_known 120 = .ok (.aload_n 0, 1) := by decide +kernel
theorem dL_known_121 : decode cL_known 121 = .ok (.iconst 2, 1) := by decide +kernel
theorem dL_known_122 : decode cL_known 122 = .ok (.iconst 1, 1) := by decide +kernel
theorem dL_known_123 : decode cL_known 123 = .ok (.iconst 1, 1) := by decide +kernel
theorem dL_known_124 : decode cL_known 124 = .ok (.invokevirtual 29, 3) := by decide +kernel
theorem dL_known_127 : decode cL_known 127 = .ok (.iconst 1, 1) := by decide +kernel
theorem dL_known_128 : decode cL_known 128 = .ok (.if_icmp .ne 29, 3) := by decide +kernel
theorem dL_known_131 : decode cL_known 131 = .ok (.aload_n 0, 1) := by decide +kernel
theorem dL_known_132 : decode cL_known 132 = .ok (.invokevirtual 155, 3) := by decide +kernel
theorem dL_known_135 : decode cL_known 135 = .ok (.iconst 1, 1) := by decide +kernel
theorem dL_known_136 : decode cL_known 136 = .ok (.if_icmp .ne 21, 3) := by decide +kernel
theorem dL_known_139 : decode cL_known 139 = .ok (.aload_n 0, 1) := by decide +kernel
theorem dL_known_140 : decode cL_known 140 = .ok (.invokevirtual 169, 3) := by decide +kernel
theorem dL_known_143 : decode cL_known 143 = .ok (.ifCond .ne 14, 3) := by decide +kernel
theorem dL_known_146 : decode cL_known 146 = .ok (.aload_n 0, 1) := by decide +kernel
theorem dL_known_147 : decode cL_known 147 = .ok (.iconst 2, 1) := by decide +kernel
theorem dL_known_148 : decode cL_known 148 = .ok (.iconst 0, 1) := by decide +kernel
theorem dL_known_149 : decode cL_known 149 = .ok (.iconst (-1), 1) := by decide +kernel
theorem dL_known_150 : decode cL_known 150 = .ok (.invokevirtual 29, 3) := by decide +kernel
theorem dL_known_153 : decode cL_known 153 = .ok (.iconst 2, 1) := by decide +kernel
theorem dL_known_154 : decode cL_known 154 = .ok (.if_icmp .eq 5, 3) := by decide +kernel
theorem dL_known_157 : decode cL_known 157 = .ok (.iconst 0, 1) := by decide +kernel
theorem dL_known_158 : decode cL_known 158 = .ok (.ireturn, 1) := by decide +kernel
theorem dL_known_159 : decode cL_known 159 = .ok (.aload_n 0, 1) := by decide +kernel
theorem dL_known_160 : decode cL_known 160 = .ok (.iconst 3, 1) := by decide +kernel
theorem dL_known_161 : decode cL_known 161 = .ok (.invokevirtual 93, 3) := by decide +kernel
theorem dL_known_164 : decode cL_known 164 = .ok (.ldc2_w 172, 3) := by decide +kernel
theorem dL_known_167 : decode cL_known 167 = .ok (.lcmp, 1) := by decide +kernel
theorem dL_known_168 : decode cL_known 168 = .ok (.ifCond .ne 108, 3) := by decide +kernel
theorem dL_known_171 : decode cL_known 171 = .ok (.aload_n 0, 1) := by decide +kernel
theorem dL_known_172 : decode cL_known 172 = .ok (.bipush 6, 2) := by decide +kernel
theorem dL_known_174 : decode cL_known 174 = .ok (.invokevirtual 93, 3) := by decide +kernel
theorem dL_known_177 : decode cL_known 177 = .ok (.lconst 1, 1) := by decide +kernel
theorem dL_known_178 : decode cL_known 178 = .ok (.lcmp, 1) := by decide +kernel
theorem dL_known_179 : decode cL_known 179 = .ok (.ifCond .ne 97, 3) := by decide +kernel
theorem dL_known_182 : decode cL_known 182 = .ok (.aload_n 0, 1) := by decide +kernel
theorem dL_known_183 : decode cL_known 183 = .ok (.bipush 9, 2) := by decide +kernel
theorem dL_known_185 : decode cL_known 185 = .ok (.invokevirtual 93, 3) := by decide +kernel
theorem dL_known_188 : decode cL_known 188 = .ok (.lconst 0, 1) := by decide +kernel
theorem dL_known_189 : decode cL_known 189 = .ok (.lcmp, 1) := by decide +kernel
theorem dL_known_190 : decode cL_known 190 = .ok (.ifCond .ne 86, 3) := by decide +kernel
theorem dL_known_193 : decode cL_known 193 = .ok (.aload_n 0, 1) := by decide +kernel
theorem dL_known_194 : decode cL_known 194 = .ok (.iconst 3, 1) := by decide +kernel
theorem dL_known_195 : decode cL_known 195 = .ok (.invokevirtual 96, 3) := by decide +kernel
theorem dL_known_198 : decode cL_known 198 = .ok (.ldc2_w 174, 3) := by decide +kernel
theorem dL_known_201 : decode cL_known 201 = .ok (.lcmp, 1) := by decide +kernel
theorem dL_known_202 : decode cL_known 202 = .ok (.ifCond .ne 74, 3) := by decide +kernel
theorem dL_known_205 : decode cL_known 205 = .ok (.aload_n 0, 1) := by decide +kernel
theorem dL_known_206 : decode cL_known 206 = .ok (.bipush 12, 2) := by decide +kernel
theorem dL_known_208 : decode cL_known 208 = .ok (.invokevirtual 105, 3) := by decide +kernel
theorem dL_known_211 : decode cL_known 211 = .ok (.ldc2_w 176, 3) := by decide +kernel
theorem dL_known_214 : decode cL_known 214 = .ok (.lcmp, 1) := by decide +kernel
theorem dL_known_215 : decode cL_known 215 = .ok (.ifCond .ne 61, 3) := by decide +kernel
theorem dL_known_218 : decode cL_known 218 = .ok (.aload_n 0, 1) := by decide +kernel
theorem dL_known_219 : decode cL_known 219 = .ok (.bipush 11, 2) := by decide +kernel
theorem dL_known_221 : decode cL_known 221 = .ok (.invokevirtual 105, 3) := by decide +kernel
theorem dL_known_224 : decode cL_known 224 = .ok (.lconst 0, 1) := by decide +kernel
theorem dL_known_225 : decode cL_known 225 = .ok (.lcmp, 1) := by decide +kernel
theorem dL_known_226 : decode cL_known 226 = .ok (.ifCond .ne 50, 3) := by decide +kernel
theorem dL_known_229 : decode cL_known 229 = .ok (.aload_n 0, 1) := by decide +kernel
theorem dL_known_230 : decode cL_known 230 = .ok (.iconst 2, 1) := by decide +kernel
theorem dL_known_231 : decode cL_known 231 = .ok (.invokevirtual 108, 3) := by decide +kernel
theorem dL_known_234 : decode cL_known 234 = .ok (.ldc2_w 178, 3) := by decide +kernel
theorem dL_known_237 : decode cL_known 237 = .ok (.lcmp, 1) := by decide +kernel
theorem dL_known_238 : decode cL_known 238 = .ok (.ifCond .ne 38, 3) := by decide +kernel
theorem dL_known_241 : decode cL_known 241 = .ok (.aload_n 0, 1) := by decide +kernel
theorem dL_known_242 : decode cL_known 242 = .ok (.iconst (-1), 1) := by decide +kernel
theorem dL_known_243 : decode cL_known 243 = .ok (.invokevirtual 108, 3) := by decide +kernel
theorem dL_known_246 : decode cL_known 246 = .ok (.ldc2_w 180, 3) := by decide +kernel
theorem dL_known_249 : decode cL_known 249 = .ok (.lcmp, 1) := by decide +kernel
theorem dL_known_250 : decode cL_known 250 = .ok (.ifCond .ne 26, 3) := by decide +kernel
theorem dL_known_253 : decode cL_known 253 = .ok (.aload_n 0, 1) := by decide +kernel
theorem dL_known_254 : decode cL_known 254 = .ok (.bipush (-2), 2) := by decide +kernel
theorem dL_known_256 : decode cL_known 256 = .ok (.invokevirtual 108, 3) := by decide +kernel
theorem dL_known_259 : decode cL_known 259 = .ok (.ldc2_w 182, 3) := by decide +kernel
theorem dL_known_262 : decode cL_known 262 = .ok (.lcmp, 1) := by decide +kernel
theorem dL_known_263 : decode cL_known 263 = .ok (.ifCond .ne 13, 3) := by decide +kernel
theorem dL_known_266 : decode cL_known 266 = .ok (.aload_n 0, 1) := by decide +kernel
theorem dL_known_267 : decode cL_known 267 = .ok (.iconst 0, 1) := by decide +kernel
theorem dL_known_268 : decode cL_known 268 = .ok (.invokevirtual 108, 3) := by decide +kernel
theorem dL_known_271 : decode cL_known 271 = .ok (.lconst 1, 1) := by decide +kernel
theorem dL_known_272 : decode cL_known 272 = .ok (.lcmp, 1) := by decide +kernel
theorem dL_known_273 : decode cL_known 273 = .ok (.ifCond .eq 5, 3) := by decide +kernel
theorem dL_known_276 : decode cL_known 276 = .ok (.iconst 0, 1) := by decide +kernel
theorem dL_known_277 : decode cL_known 277 = .ok (.ireturn, 1) := by decide +kernel
theorem dL_known_278 : decode cL_known 278 = .ok (.aload_n 0, 1) := by decide +kernel
theorem dL_known_279 : decode cL_known 279 = .ok (.iconst 3, 1) := by decide +kernel
theorem dL_known_280 : decode cL_known 280 = .ok (.invokevirtual 51, 3) := by decide +kernel
theorem dL_known_283 : decode cL_known 283 = .ok (.ldc2_w 184, 3) := by decide +kernel
theorem dL_known_286 : decode cL_known 286 = .ok (.lcmp, 1) := by decide +kernel
theorem dL_known_287 : decode cL_known 287 = .ok (.ifCond .ne 124, 3) := by decide +kernel
theorem dL_known_290 : decode cL_known 290 = .ok (.aload_n 0, 1) := by decide +kernel
theorem dL_known_291 : decode cL_known 291 = .ok (.iconst 3, 1) := by decide +kernel
theorem dL_known_292 : decode cL_known 292 = .ok (.invokevirtual 47, 3) := by decide +kernel
theorem dL_known_295 : decode cL_known 295 = .ok (.ldc2_w 127, 3) := by decide +kernel
theorem dL_known_298 : decode cL_known 298 = .ok (.lcmp, 1) := by decide +kernel
theorem dL_known_299 : decode cL_known 299 = .ok (.ifCond .ne 112, 3) := by decide +kernel
theorem dL_known_302 : decode cL_known 302 = .ok (.aload_n 0, 1) := by decide +kernel
theorem dL_known_303 : decode cL_known 303 = .ok (.iconst 3, 1) := by decide +kernel
theorem dL_known_304 : decode cL_known 304 = .ok (.invokevirtual 78, 3) := by decide +kernel
theorem dL_known_307 : decode cL_known 307 = .ok (.lconst 0, 1) := by decide +kernel
theorem dL_known_308 : decode cL_known 308 = .ok (.lcmp, 1) := by decide +kernel
theorem dL_known_309 : decode cL_known 309 = .ok (.ifCond .ne 102, 3) := by decide +kernel
theorem dL_known_312 : decode cL_known 312 = .ok (.aload_n 0, 1) := by decide +kernel
theorem dL_known_313 : decode cL_known 313 = .ok (.bipush 6, 2) := by decide +kernel
theorem dL_known_315 : decode cL_known 315 = .ok (.invokevirtual 78, 3) := by decide +kernel
theorem dL_known_318 : decode cL_known 318 = .ok (.ldc2_w 186, 3) := by decide +kernel
theorem dL_known_321 : decode cL_known 321 = .ok (.lcmp, 1) := by decide +kernel
theorem dL_known_322 : decode cL_known 322 = .ok (.ifCond .ne 89, 3) := by decide +kernel
theorem dL_known_325 : decode cL_known 325 = .ok (.aload_n 0, 1) := by decide +kernel
theorem dL_known_326 : decode cL_known 326 = .ok (.iconst 3, 1) := by decide +kernel
theorem dL_known_327 : decode cL_known 327 = .ok (.invokevirtual 81, 3) := by decide +kernel
theorem dL_known_330 : decode cL_known 330 = .ok (.ldc2_w 174, 3) := by decide +kernel
theorem dL_known_333 : decode cL_known 333 = .ok (.lcmp, 1) := by decide +kernel
theorem dL_known_334 : decode cL_known 334 = .ok (.ifCond .ne 77, 3) := by decide +kernel
theorem dL_known_337 : decode cL_known 337 = .ok (.aload_n 0, 1) := by decide +kernel
theorem dL_known_338 : decode cL_known 338 = .ok (.iconst 3, 1) := by decide +kernel
theorem dL_known_339 : decode cL_known 339 = .ok (.invokevirtual 84, 3) := by decide +kernel
theorem dL_known_342 : decode cL_known 342 = .ok (.lconst 0, 1) := by decide +kernel
theorem dL_known_343 : decode cL_known 343 = .ok (.lcmp, 1) := by decide +kernel
theorem dL_known_344 : decode cL_known 344 = .ok (.ifCond .ne 67, 3) := by decide +kernel
theorem dL_known_347 : decode cL_known 347 = .ok (.aload_n 0, 1) := by decide +kernel
theorem dL_known_348 : decode cL_known 348 = .ok (.bipush 6, 2) := by decide +kernel
theorem dL_known_350 : decode cL_known 350 = .ok (.invokevirtual 81, 3) := by decide +kernel
theorem dL_known_353 : decode cL_known 353 = .ok (.lconst 0, 1) := by decide +kernel
theorem dL_known_354 : decode cL_known 354 = .ok (.lcmp, 1) := by decide +kernel
theorem dL_known_355 : decode cL_known 355 = .ok (.ifCond .ne 56, 3) := by decide +kernel
theorem dL_known_358 : decode cL_known 358 = .ok (.aload_n 0, 1) := by decide +kernel
theorem dL_known_359 : decode cL_known 359 = .ok (.invokevirtual 161, 3) := by decide +kernel
theorem dL_known_362 : decode cL_known 362 = .ok (.iconst 3, 1) := by decide +kernel
theorem dL_known_363 : decode cL_known 363 = .ok (.if_icmp .ne 48, 3) := by decide +kernel
theorem dL_known_366 : decode cL_known 366 = .ok (.aload_n 0, 1) := by decide +kernel
theorem dL_known_367 : decode cL_known 367 = .ok (.invokevirtual 164, 3) := by decide +kernel
theorem dL_known_370 : decode cL_known 370 = .ok (.iconst 3, 1) := by decide +kernel
theorem dL_known_371 : decode cL_known 371 = .ok (.if_icmp .ne 40, 3) := by decide +kernel
theorem dL_known_374 : decode cL_known 374 = .ok (.aload_n 0, 1) := by decide +kernel
theorem dL_known_375 : decode cL_known 375 = .ok (.invokevirtual 155, 3) := by decide +kernel
theorem dL_known_378 : decode cL_known 378 = .ok (.iconst 3, 1) := by decide +kernel
theorem dL_known_379 : decode cL_known 379 = .ok (.if_icmp .ne 32, 3) := by decide +kernel
theorem dL_known_382 : decode cL_known 382 = .ok (.aload_n 0, 1) := by decide +kernel
theorem dL_known_383 : decode cL_known 383 = .ok (.invokevirtual 54, 3) := by decide +kernel
theorem dL_known_386 : decode cL_known 386 = .ok (.ifCond .ne 25, 3) := by decide +kernel
theorem dL_known_389 : decode cL_known 389 = .ok (.aload_n 0, 1) := by decide +kernel
theorem dL_known_390 : decode cL_known 390 = .ok (.iconst 1, 1) := by decide +kernel
theorem dL_known_391 : decode cL_known 391 = .ok (.invokevirtual 111, 3) := by decide +kernel
theorem dL_known_394 : decode cL_known 394 = .ok (.lconst 0, 1) := by decide +kernel
theorem dL_known_395 : decode cL_known 395 = .ok (.lcmp, 1) := by decide +kernel
theorem dL_known_396 : decode cL_known 396 = .ok (.ifCond .ne 15, 3) := by decide +kernel
theorem dL_known_399 : decode cL_known 399 = .ok (.aload_n 0, 1) := by decide +kernel
theorem dL_known_400 : decode cL_known 400 = .ok (.iconst 2, 1) := by decide +kernel
theorem dL_known_401 : decode cL_known 401 = .ok (.invokevirtual 111, 3) := by decide +kernel
theorem dL_known_404 : decode cL_known 404 = .ok (.ldc2_w 188, 3) := by decide +kernel
theorem dL_known_407 : decode cL_known 407 = .ok (.lcmp, 1) := by decide +kernel
theorem dL_known_408 : decode cL_known 408 = .ok (.ifCond .eq 5, 3) := by decide +kernel
theorem dL_known_411 : decode cL_known 411 = .ok (.iconst 0, 1) := by decide +kernel
theorem dL_known_412 : decode cL_known 412 = .ok (.ireturn, 1) := by decide +kernel
theorem dL_known_413 : decode cL_known 413 = .ok (.aload_n 0, 1) := by decide +kernel
theorem dL_known_414 : decode cL_known 414 = .ok (.iconst 3, 1) := by decide +kernel
theorem dL_known_415 : decode cL_known 415 = .ok (.iconst 0, 1) := by decide +kernel
theorem dL_known_416 : decode cL_known 416 = .ok (.iconst 0, 1) := by decide +kernel
theorem dL_known_417 : decode cL_known 417 = .ok (.invokevirtual 87, 3) := by decide +kernel
theorem dL_known_420 : decode cL_known 420 = .ok (.ifCond .ne 89, 3) := by decide +kernel
theorem dL_known_423 : decode cL_known 423 = .ok (.aload_n 0, 1) := by decide +kernel
theorem dL_known_424 : decode cL_known 424 = .ok (.iconst 3, 1) := by decide +kernel
theorem dL_known_425 : decode cL_known 425 = .ok (.iconst 0, 1) := by decide +kernel
theorem dL_known_426 : decode cL_known 426 = .ok (.iconst 1, 1) := by decide +kernel
theorem dL_known_427 : decode cL_known 427 = .ok (.invokevirtual 87, 3) := by decide +kernel
theorem dL_known_430 : decode cL_known 430 = .ok (.iconst 3, 1) := by decide +kernel
theorem dL_known_431 : decode cL_known 431 = .ok (.if_icmp .ne 78, 3) := by decide +kernel
theorem dL_known_434 : decode cL_known 434 = .ok (.aload_n 0, 1) := by decide +kernel
theorem dL_known_435 : decode cL_known 435 = .ok (.iconst 3, 1) := by decide +kernel
theorem dL_known_436 : decode cL_known 436 = .ok (.iconst 0, 1) := by decide +kernel
theorem dL_known_437 : decode cL_known 437 = .ok (.iconst 2, 1) := by decide +kernel
theorem dL_known_438 : decode cL_known 438 = .ok (.invokevirtual 87, 3) := by decide +kernel
theorem dL_known_441 : decode cL_known 441 = .ok (.iconst 4, 1) := by decide +kernel
theorem dL_known_442 : decode cL_known 442 = .ok (.if_icmp .ne 67, 3) := by decide +kernel
theorem dL_known_445 : decode cL_known 445 = .ok (.aload_n 0, 1) := by decide +kernel
theorem dL_known_446 : decode cL_known 446 = .ok (.iconst 3, 1) := by decide +kernel
theorem dL_known_447 : decode cL_known 447 = .ok (.iconst 1, 1) := by decide +kernel
theorem dL_known_448 : decode cL_known 448 = .ok (.iconst 0, 1) := by decide +kernel
theorem dL_known_449 : decode cL_known 449 = .ok (.invokevirtual 87, 3) := by decide +kernel
theorem dL_known_452 : decode cL_known 452 = .ok (.iconst 1, 1) := by decide +kernel
theorem dL_known_453 : decode cL_known 453 = .ok (.if_icmp .ne 56, 3) := by decide +kernel
theorem dL_known_456 : decode cL_known 456 = .ok (.aload_n 0, 1) := by decide +kernel
theorem dL_known_457 : decode cL_known 457 = .ok (.iconst 3, 1) := by decide +kernel
theorem dL_known_458 : decode cL_known 458 = .ok (.iconst 1, 1) := by decide +kernel
theorem dL_known_459 : decode cL_known 459 = .ok (.iconst 1, 1) := by decide +kernel
theorem dL_known_460 : decode cL_known 460 = .ok (.invokevirtual 87, 3) := by decide +kernel
theorem dL_known_463 : decode cL_known 463 = .ok (.iconst 5, 1) := by decide +kernel
theorem dL_known_464 : decode cL_known 464 = .ok (.if_icmp .ne 45, 3) := by decide +kernel
theorem dL_known_467 : decode cL_known 467 = .ok (.aload_n 0, 1) := by decide +kernel
theorem dL_known_468 : decode cL_known 468 = .ok (.iconst 3, 1) := by decide +kernel
theorem dL_known_469 : decode cL_known 469 = .ok (.iconst 1, 1) := by decide +kernel
theorem dL_known_470 : decode cL_known 470 = .ok (.iconst 2, 1) := by decide +kernel
theorem dL_known_471 : decode cL_known 471 = .ok (.invokevirtual 87, 3) := by decide +kernel
theorem dL_known_474 : decode cL_known 474 = .ok (.iconst 2, 1) := by decide +kernel
theorem dL_known_475 : decode cL_known 475 = .ok (.if_icmp .ne 34, 3) := by decide +kernel
theorem dL_known_478 : decode cL_known 478 = .ok (.aload_n 0, 1) := by decide +kernel
theorem dL_known_479 : decode cL_known 479 = .ok (.iconst 3, 1) := by decide +kernel
theorem dL_known_480 : decode cL_known 480 = .ok (.iconst 1, 1) := by decide +kernel
theorem dL_known_481 : decode cL_known 481 = .ok (.invokevirtual 90, 3) := by decide +kernel
theorem dL_known_484 : decode cL_known 484 = .ok (.iconst (-1), 1) := by decide +kernel
theorem dL_known_485 : decode cL_known 485 = .ok (.if_icmp .ne 24, 3) := by decide +kernel
theorem dL_known_488 : decode cL_known 488 = .ok (.aload_n 0, 1) := by decide +kernel
theorem dL_known_489 : decode cL_known 489 = .ok (.iconst 3, 1) := by decide +kernel
theorem dL_known_490 : decode cL_known 490 = .ok (.iconst 2, 1) := by decide +kernel
theorem dL_known_491 : decode cL_known 491 = .ok (.iconst 0, 1) := by decide +kernel
theorem dL_known_492 : decode cL_known 492 = .ok (.invokevirtual 87, 3) := by decide +kernel
theorem dL_known_495 : decode cL_known 495 = .ok (.bipush (-9), 2) := by decide +kernel
theorem dL_known_497 : decode cL_known 497 = .ok (.if_icmp .ne 12, 3) := by decide +kernel
theorem dL_known_500 : decode cL_known 500 = .ok (.aload_n 0, 1) := by decide +kernel
theorem dL_known_501 : decode cL_known 501 = .ok (.iconst 3, 1) := by decide +kernel
theorem dL_known_502 : decode cL_known 502 = .ok (.iconst 2, 1) := by decide +kernel
theorem dL_known_503 : decode cL_known 503 = .ok (.invokevirtual 90, 3) := by decide +kernel
theorem dL_known_506 : decode cL_known 506 = .ok (.ifCond .eq 5, 3) := by decide +kernel
theorem dL_known_509 : decode cL_known 509 = .ok (.iconst 0, 1) := by decide +kernel
theorem dL_known_510 : decode cL_known 510 = .ok (.ireturn, 1) := by decide +kernel
theorem dL_known_511 : decode cL_known 511 = .ok (.aload_n 0, 1) := by decide +kernel
theorem dL_known_512 : decode cL_known 512 = .ok (.iconst 2, 1) := by decide +kernel
theorem dL_known_513 : decode cL_known 513 = .ok (.invokevirtual 15, 3) := by decide +kernel
theorem dL_known_516 : decode cL_known 516 = .ok (.pop, 1) := by decide +kernel
theorem dL_known_517 : decode cL_known 517 = .ok (.aload_n 0, 1) := by decide +kernel
theorem dL_known_518 : decode cL_known 518 = .ok (.iconst 0, 1) := by decide +kernel
theorem dL_known_519 : decode cL_known 519 = .ok (.iconst 1, 1) := by decide +kernel
theorem dL_known_520 : decode cL_known 520 = .ok (.iconst 1, 1) := by decide +kernel
theorem dL_known_521 : decode cL_known 521 = .ok (.invokevirtual 29, 3) := by decide +kernel
theorem dL_known_524 : decode cL_known 524 = .ok (.ifCond .ne 98, 3) := by decide +kernel
theorem dL_known_527 : decode cL_known 527 = .ok (.aload_n 0, 1) := by decide +kernel
theorem dL_known_528 : decode cL_known 528 = .ok (.iconst 0, 1) := by decide +kernel
theorem dL_known_529 : decode cL_known 529 = .ok (.iconst 1, 1) := by decide +kernel
theorem dL_known_530 : decode cL_known 530 = .ok (.iconst (-1), 1) := by decide +kernel
theorem dL_known_531 : decode cL_known 531 = .ok (.invokevirtual 29, 3) := by decide +kernel
theorem dL_known_534 : decode cL_known 534 = .ok (.iconst 1, 1) := by decide +kernel
theorem dL_known_535 : decode cL_known 535 = .ok (.if_icmp .ne 87, 3) := by decide +kernel
theorem dL_known_538 : decode cL_known 538 = .ok (.aload_n 0, 1) := by decide +kernel
theorem dL_known_539 : decode cL_known 539 = .ok (.iconst 0, 1) := by decide +kernel
theorem dL_known_540 : decode cL_known 540 = .ok (.iconst 1, 1) := by decide +kernel
theorem dL_known_541 : decode cL_known 541 = .ok (.iconst 1, 1) := by decide +kernel
theorem dL_known_542 : decode cL_known 542 = .ok (.invokevirtual 29, 3) := by decide +kernel
theorem dL_known_545 : decode cL_known 545 = .ok (.iconst 2, 1) := by decide +kernel
theorem dL_known_546 : decode cL_known 546 = .ok (.if_icmp .ne 76, 3) := by decide +kernel
theorem dL_known_549 : decode cL_known 549 = .ok (.aload_n 0, 1) := by decide +kernel
theorem dL_known_550 : decode cL_known 550 = .ok (.iconst 2, 1) := by decide +kernel
theorem dL_known_551 : decode cL_known 551 = .ok (.invokevirtual 93, 3) := by decide +kernel
theorem dL_known_554 : decode cL_known 554 = .ok (.ldc2_w 127, 3) := by decide +kernel
theorem dL_known_557 : decode cL_known 557 = .ok (.lcmp, 1) := by decide +kernel
theorem dL_known_558 : decode cL_known 558 = .ok (.ifCond .ne 64, 3) := by decide +kernel
theorem dL_known_561 : decode cL_known 561 = .ok (.aload_n 0, 1) := by decide +kernel
theorem dL_known_562 : decode cL_known 562 = .ok (.iconst 4, 1) := by decide +kernel
theorem dL_known_563 : decode cL_known 563 = .ok (.invokevirtual 93, 3) := by decide +kernel
theorem dL_known_566 : decode cL_known 566 = .ok (.ldc2_w 188, 3) := by decide +kernel
theorem dL_known_569 : decode cL_known 569 = .ok (.lcmp, 1) := by decide +kernel
theorem dL_known_570 : decode cL_known 570 = .ok (.ifCond .ne 52, 3) := by decide +kernel
theorem dL_known_573 : decode cL_known 573 = .ok (.aload_n 0, 1) := by decide +kernel
theorem dL_known_574 : decode cL_known 574 = .ok (.bipush 6, 2) := by decide +kernel
theorem dL_known_576 : decode cL_known 576 = .ok (.invokevirtual 93, 3) := by decide +kernel
theorem dL_known_579 : decode cL_known 579 = .ok (.ldc2_w 190, 3) := by decide +kernel
theorem dL_known_582 : decode cL_known 582 = .ok (.lcmp, 1) := by decide +kernel
theorem dL_known_583 : decode cL_known 583 = .ok (.ifCond .ne 39, 3) := by decide +kernel
theorem dL_known_586 : decode cL_known 586 = .ok (.aload_n 0, 1) := by decide +kernel
theorem dL_known_587 : decode cL_known 587 = .ok (.iconst 2, 1) := by decide +kernel
theorem dL_known_588 : decode cL_known 588 = .ok (.invokevirtual 99, 3) := by decide +kernel
theorem dL_known_591 : decode cL_known 591 = .ok (.ldc2_w 192, 3) := by decide +kernel
theorem dL_known_594 : decode cL_known 594 = .ok (.lcmp, 1) := by decide +kernel
theorem dL_known_595 : decode cL_known 595 = .ok (.ifCond .ne 27, 3) := by decide +kernel
theorem dL_known_598 : decode cL_known 598 = .ok (.aload_n 0, 1) := by decide +kernel
theorem dL_known_599 : decode cL_known 599 = .ok (.iconst 4, 1) := by decide +kernel
theorem dL_known_600 : decode cL_known 600 = .ok (.invokevirtual 99, 3) := by decide +kernel
theorem dL_known_603 : decode cL_known 603 = .ok (.ldc2_w 180, 3) := by decide +kernel
theorem dL_known_606 : decode cL_known 606 = .ok (.lcmp, 1) := by decide +kernel
theorem dL_known_607 : decode cL_known 607 = .ok (.ifCond .ne 15, 3) := by decide +kernel
theorem dL_known_610 : decode cL_known 610 = .ok (.aload_n 0, 1) := by decide +kernel
theorem dL_known_611 : decode cL_known 611 = .ok (.iconst 2, 1) := by decide +kernel
theorem dL_known_612 : decode cL_known 612 = .ok (.invokevirtual 108, 3) := by decide +kernel
theorem dL_known_615 : decode cL_known 615 = .ok (.ldc2_w 194, 3) := by decide +kernel
theorem dL_known_618 : decode cL_known 618 = .ok (.lcmp, 1) := by decide +kernel
theorem dL_known_619 : decode cL_known 619 = .ok (.ifCond .eq 5, 3) := by decide +kernel
theorem dL_known_622 : decode cL_known 622 = .ok (.iconst 0, 1) := by decide +kernel
theorem dL_known_623 : decode cL_known 623 = .ok (.ireturn, 1) := by decide +kernel
theorem dL_known_624 : decode cL_known 624 = .ok (.aload_n 0, 1) := by decide +kernel
theorem dL_known_625 : decode cL_known 625 = .ok (.iconst 2, 1) := by decide +kernel
theorem dL_known_626 : decode cL_known 626 = .ok (.invokevirtual 51, 3) := by decide +kernel
theorem dL_known_629 : decode cL_known 629 = .ok (.ldc2_w 186, 3) := by decide +kernel
theorem dL_known_632 : decode cL_known 632 = .ok (.lcmp, 1) := by decide +kernel
theorem dL_known_633 : decode cL_known 633 = .ok (.ifCond .ne 141, 3) := by decide +kernel
theorem dL_known_636 : decode cL_known 636 = .ok (.aload_n 0, 1) := by decide +kernel
theorem dL_known_637 : decode cL_known 637 = .ok (.iconst 2, 1) := by decide +kernel
theorem dL_known_638 : decode cL_known 638 = .ok (.invokevirtual 47, 3) := by decide +kernel
theorem dL_known_641 : decode cL_known 641 = .ok (.ldc2_w 190, 3) := by decide +kernel
theorem dL_known_644 : decode cL_known 644 = .ok (.lcmp, 1) := by decide +kernel
theorem dL_known_645 : decode cL_known 645 = .ok (.ifCond .ne 129, 3) := by decide +kernel
theorem dL_known_648 : decode cL_known 648 = .ok (.aload_n 0, 1) := by decide +kernel
theorem dL_known_649 : decode cL_known 649 = .ok (.iconst 2, 1) := by decide +kernel
theorem dL_known_650 : decode cL_known 650 = .ok (.invokevirtual 81, 3) := by decide +kernel
theorem dL_known_653 : decode cL_known 653 = .ok (.ldc2_w 184, 3) := by decide +kernel
theorem dL_known_656 : decode cL_known 656 = .ok (.lcmp, 1) := by decide +kernel
theorem dL_known_657 : decode cL_known 657 = .ok (.ifCond .ne 117, 3) := by decide +kernel
theorem dL_known_660 : decode cL_known 660 = .ok (.aload_n 0, 1) := by decide +kernel
theorem dL_known_661 : decode cL_known 661 = .ok (.iconst 2, 1) := by decide +kernel
theorem dL_known_662 : decode cL_known 662 = .ok (.invokevirtual 84, 3) := by decide +kernel
theorem dL_known_665 : decode cL_known 665 = .ok (.ldc2_w 174, 3) := by decide +kernel
theorem dL_known_668 : decode cL_known 668 = .ok (.lcmp, 1) := by decide +kernel
theorem dL_known_669 : decode cL_known 669 = .ok (.ifCond .ne 105, 3) := by decide +kernel
theorem dL_known_672 : decode cL_known 672 = .ok (.aload_n 0, 1) := by decide +kernel
theorem dL_known_673 : decode cL_known 673 = .ok (.iconst 2, 1) := by decide +kernel
theorem dL_known_674 : decode cL_known 674 = .ok (.invokevirtual 111, 3) := by decide +kernel
theorem dL_known_677 : decode cL_known 677 = .ok (.ldc2_w 196, 3) := by decide +kernel
theorem dL_known_680 : decode cL_known 680 = .ok (.lcmp, 1) := by decide +kernel
theorem dL_known_681 : decode cL_known 681 = .ok (.ifCond .ne 93, 3) := by decide +kernel
theorem dL_known_684 : decode cL_known 684 = .ok (.aload_n 0, 1) := by decide +kernel
theorem dL_known_685 : decode cL_known 685 = .ok (.iconst 1, 1) := by decide +kernel
theorem dL_known_686 : decode cL_known 686 = .ok (.invokevirtual 111, 3) := by decide +kernel
theorem dL_known_689 : decode cL_known 689 = .ok (.lconst 0, 1) := by decide +kernel
theorem dL_known_690 : decode cL_known 690 = .ok (.lcmp, 1) := by decide +kernel
theorem dL_known_691 : decode cL_known 691 = .ok (.ifCond .ne 83, 3) := by decide +kernel
theorem dL_known_694 : decode cL_known 694 = .ok (.aload_n 0, 1) := by decide +kernel
theorem dL_known_695 : decode cL_known 695 = .ok (.invokevirtual 155, 3) := by decide +kernel
theorem dL_known_698 : decode cL_known 698 = .ok (.iconst 3, 1) := by decide +kernel
theorem dL_known_699 : decode cL_known 699 = .ok (.if_icmp .ne 75, 3) := by decide +kernel
theorem dL_known_702 : decode cL_known 702 = .ok (.aload_n 0, 1) := by decide +kernel
theorem dL_known_703 : decode cL_known 703 = .ok (.invokevirtual 164, 3) := by decide +kernel
theorem dL_known_706 : decode cL_known 706 = .ok (.iconst 2, 1) := by decide +kernel
theorem dL_known_707 : decode cL_known 707 = .ok (.if_icmp .ne 67, 3) := by decide +kernel
theorem dL_known_710 : decode cL_known 710 = .ok (.aload_n 0, 1) := by decide +kernel
theorem dL_known_711 : decode cL_known 711 = .ok (.invokevirtual 152, 3) := by decide +kernel
theorem dL_known_714 : decode cL_known 714 = .ok (.bipush 6, 2) := by decide +kernel
theorem dL_known_716 : decode cL_known 716 = .ok (.if_icmp .ne 58, 3) := by decide +kernel
theorem dL_known_719 : decode cL_known 719 = .ok (.aload_n 0, 1) := by decide +kernel
theorem dL_known_720 : decode cL_known 720 = .ok (.iconst 2, 1) := by decide +kernel
theorem dL_known_721 : decode cL_known 721 = .ok (.iconst 4, 1) := by decide +kernel
theorem dL_known_722 : decode cL_known 722 = .ok (.iconst 0, 1) := by decide +kernel
theorem dL_known_723 : decode cL_known 723 = .ok (.invokevirtual 87, 3) := by decide +kernel
theorem dL_known_726 : decode cL_known 726 = .ok (.iconst 2, 1) := by decide +kernel
theorem dL_known_727 : decode cL_known 727 = .ok (.if_icmp .ne 47, 3) := by decide +kernel
theorem dL_known_730 : decode cL_known 730 = .ok (.aload_n 0, 1) := by decide +kernel
theorem dL_known_731 : decode cL_known 731 = .ok (.iconst 2, 1) := by decide +kernel
theorem dL_known_732 : decode cL_known 732 = .ok (.iconst 4, 1) := by decide +kernel
theorem dL_known_733 : decode cL_known 733 = .ok (.iconst 1, 1) := by decide +kernel
theorem dL_known_734 : decode cL_known 734 = .ok (.invokevirtual 87, 3) := by decide +kernel
theorem dL_known_737 : decode cL_known 737 = .ok (.iconst 5, 1) := by decide +kernel
theorem dL_known_738 : decode cL_known 738 = .ok (.if_icmp .ne 36, 3) := by decide +kernel
theorem dL_known_741 : decode cL_known 741 = .ok (.aload_n 0, 1) := by decide +kernel
theorem dL_known_742 : decode cL_known 742 = .ok (.iconst 2, 1) := by decide +kernel
theorem dL_known_743 : decode cL_known 743 = .ok (.iconst 1, 1) := by decide +kernel
theorem dL_known_744 : decode cL_known 744 = .ok (.invokevirtual 90, 3) := by decide +kernel
theorem dL_known_747 : decode cL_known 747 = .ok (.iconst 1, 1) := by decide +kernel
theorem dL_known_748 : decode cL_known 748 = .ok (.if_icmp .ne 26, 3) := by decide +kernel
theorem dL_known_751 : decode cL_known 751 = .ok (.aload_n 0, 1) := by decide +kernel
theorem dL_known_752 : decode cL_known 752 = .ok (.iconst 2, 1) := by decide +kernel
theorem dL_known_753 : decode cL_known 753 = .ok (.iconst 0, 1) := by decide +kernel
theorem dL_known_754 : decode cL_known 754 = .ok (.invokevirtual 90, 3) := by decide +kernel
theorem dL_known_757 : decode cL_known 757 = .ok (.iconst (-1), 1) := by decide +kernel
theorem dL_known_758 : decode cL_known 758 = .ok (.if_icmp .ne 16, 3) := by decide +kernel
theorem dL_known_761 : decode cL_known 761 = .ok (.aload_n 0, 1) := by decide +kernel
theorem dL_known_762 : decode cL_known 762 = .ok (.iconst 2, 1) := by decide +kernel
theorem dL_known_763 : decode cL_known 763 = .ok (.bipush 6, 2) := by decide +kernel
theorem dL_known_765 : decode cL_known 765 = .ok (.iconst 1, 1) := by decide +kernel
theorem dL_known_766 : decode cL_known 766 = .ok (.invokevirtual 87, 3) := by decide +kernel
theorem dL_known_769 : decode cL_known 769 = .ok (.bipush (-9), 2) := by decide +kernel
theorem dL_known_771 : decode cL_known 771 = .ok (.if_icmp .eq 5, 3) := by decide +kernel
theorem dL_known_774 : decode cL_known 774 = .ok (.iconst 0, 1) := by decide +kernel
theorem dL_known_775 : decode cL_known 775 = .ok (.ireturn, 1) := by decide +kernel
theorem dL_known_776 : decode cL_known 776 = .ok (.aload_n 0, 1) := by decide +kernel
theorem dL_known_777 : decode cL_known 777 = .ok (.iconst 1, 1) := by decide +kernel
theorem dL_known_778 : decode cL_known 778 = .ok (.invokevirtual 15, 3) := by decide +kernel
theorem dL_known_781 : decode cL_known 781 = .ok (.pop, 1) := by decide +kernel
theorem dL_known_782 : decode cL_known 782 = .ok (.aload_n 0, 1) := by decide +kernel
theorem dL_known_783 : decode cL_known 783 = .ok (.iconst 2, 1) := by decide +kernel
theorem dL_known_784 : decode cL_known 784 = .ok (.invokevirtual 99, 3) := by decide +kernel
theorem dL_known_787 : decode cL_known 787 = .ok (.ldc2_w 167, 3) := by decide +kernel
theorem dL_known_790 : decode cL_known 790 = .ok (.lcmp, 1) := by decide +kernel
theorem dL_known_791 : decode cL_known 791 = .ok (.ifCond .ne 62, 3) := by decide +kernel
theorem dL_known_794 : decode cL_known 794 = .ok (.aload_n 0, 1) := by decide +kernel
theorem dL_known_795 : decode cL_known 795 = .ok (.iconst 0, 1) := by decide +kernel
theorem dL_known_796 : decode cL_known 796 = .ok (.invokevirtual 102, 3) := by decide +kernel
theorem dL_known_799 : decode cL_known 799 = .ok (.lconst 1, 1) := by decide +kernel
theorem dL_known_800 : decode cL_known 800 = .ok (.lcmp, 1) := by decide +kernel
theorem dL_known_801 : decode cL_known 801 = .ok (.ifCond .ne 52, 3) := by decide +kernel
theorem dL_known_804 : decode cL_known 804 = .ok (.aload_n 0, 1) := by decide +kernel
theorem dL_known_805 : decode cL_known 805 = .ok (.iconst 2, 1) := by decide +kernel
theorem dL_known_806 : decode cL_known 806 = .ok (.invokevirtual 102, 3) := by decide +kernel
theorem dL_known_809 : decode cL_known 809 = .ok (.lconst 0, 1) := by decide +kernel
theorem dL_known_810 : decode cL_known 810 = .ok (.lcmp, 1) := by decide +kernel
theorem dL_known_811 : decode cL_known 811 = .ok (.ifCond .ne 42, 3) := by decide +kernel
theorem dL_known_814 : decode cL_known 814 = .ok (.aload_n 0, 1) := by decide +kernel
theorem dL_known_815 : decode cL_known 815 = .ok (.invokevirtual 155, 3) := by decide +kernel
theorem dL_known_818 : decode cL_known 818 = .ok (.iconst 1, 1) := by decide +kernel
theorem dL_known_819 : decode cL_known 819 = .ok (.if_icmp .ne 34, 3) := by decide +kernel
theorem dL_known_822 : decode cL_known 822 = .ok (.aload_n 0, 1) := by decide +kernel
theorem dL_known_823 : decode cL_known 823 = .ok (.invokevirtual 158, 3) := by decide +kernel
theorem dL_known_826 : decode cL_known 826 = .ok (.iconst 1, 1) := by decide +kernel
theorem dL_known_827 : decode cL_known 827 = .ok (.if_icmp .ne 26, 3) := by decide +kernel
theorem dL_known_830 : decode cL_known 830 = .ok (.aload_n 0, 1) := by decide +kernel
theorem dL_known_831 : decode cL_known 831 = .ok (.iconst 0, 1) := by decide +kernel
theorem dL_known_832 : decode cL_known 832 = .ok (.iconst 0, 1) := by decide +kernel
theorem dL_known_833 : decode cL_known 833 = .ok (.iconst 1, 1) := by decide +kernel
theorem dL_known_834 : decode cL_known 834 = .ok (.invokevirtual 29, 3) := by decide +kernel
theorem dL_known_837 : decode cL_known 837 = .ok (.iconst (-1), 1) := by decide +kernel
theorem dL_known_838 : decode cL_known 838 = .ok (.if_icmp .ne 15, 3) := by decide +kernel
theorem dL_known_841 : decode cL_known 841 = .ok (.aload_n 0, 1) := by decide +kernel
theorem dL_known_842 : decode cL_known 842 = .ok (.invokevirtual 54, 3) := by decide +kernel
theorem dL_known_845 : decode cL_known 845 = .ok (.iconst 1, 1) := by decide +kernel
theorem dL_known_846 : decode cL_known 846 = .ok (.if_icmp .ne 7, 3) := by decide +kernel
theorem dL_known_849 : decode cL_known 849 = .ok (.iconst 1, 1) := by decide +kernel
theorem dL_known_850 : decode cL_known 850 = .ok (.goto 4, 3) := by decide +kernel
theorem dL_known_853 : decode cL_known 853 = .ok (.iconst 0, 1) := by decide +kernel
theorem dL_known_854 : decode cL_known 854 = .ok (.ireturn, 1) := by decide +kernel
theorem dL_law_0 : decode cL_law 0 = .ok (.bipush 32, 2) := by decide +kernel
theorem dL_law_2 : decode cL_law 2 = .ok (.newarray .int, 2) := by decide +kernel
theorem dL_law_4 : decode cL_law 4 = .ok (.astore_n 1, 1) := by decide +kernel
theorem dL_law_5 : decode cL_law 5 = .ok (.new 10, 3) := by decide +kernel
theorem dL_law_8 : decode cL_law 8 = .ok (.dup, 1) := by decide +kernel
theorem dL_law_9 : decode cL_law 9 = .ok (.invokespecial 198, 3) := by decide +kernel
theorem dL_law_12 : decode cL_law 12 = .ok (.astore_n 2, 1) := by decide +kernel
theorem dL_law_13 : decode cL_law 13 = .ok (.aload_n 2, 1) := by decide +kernel
theorem dL_law_14 : decode cL_law 14 = .ok (.invokevirtual 199, 3) := by decide +kernel
theorem dL_law_17 : decode cL_law 17 = .ok (.bipush (-2), 2) := by decide +kernel
theorem dL_law_19 : decode cL_law 19 = .ok (.if_icmp .ne 51, 3) := by decide +kernel
theorem dL_law_22 : decode cL_law 22 = .ok (.aload_n 2, 1) := by decide +kernel
theorem dL_law_23 : decode cL_law 23 = .ok (.invokevirtual 9, 3) := by decide +kernel
theorem dL_law_26 : decode cL_law 26 = .ok (.iconst 4, 1) := by decide +kernel
theorem dL_law_27 : decode cL_law 27 = .ok (.if_icmp .ne 43, 3) := by decide +kernel
theorem dL_law_30 : decode cL_law 30 = .ok (.aload_n 2, 1) := by decide +kernel
theorem dL_law_31 : decode cL_law 31 = .ok (.invokevirtual 41, 3) := by decide +kernel
theorem dL_law_34 : decode cL_law 34 = .ok (.ifCond .ne 36, 3) := by decide +kernel
theorem dL_law_37 : decode cL_law 37 = .ok (.aload_n 2, 1) := by decide +kernel
theorem dL_law_38 : decode cL_law 38 = .ok (.invokestatic 202, 3) := by decide +kernel
theorem dL_law_41 : decode cL_law 41 = .ok (.ifCond .eq 29, 3) := by decide +kernel
theorem dL_law_44 : decode cL_law 44 = .ok (.new 10, 3) := by decide +kernel
theorem dL_law_47 : decode cL_law 47 = .ok (.dup, 1) := by decide +kernel
theorem dL_law_48 : decode cL_law 48 = .ok (.invokespecial 198, 3) := by decide +kernel
theorem dL_law_51 : decode cL_law 51 = .ok (.invokestatic 206, 3) := by decide +kernel
theorem dL_law_54 : decode cL_law 54 = .ok (.ifCond .eq 16, 3) := by decide +kernel
theorem dL_law_57 : decode cL_law 57 = .ok (.new 10, 3) := by decide +kernel
theorem dL_law_60 : decode cL_law 60 = .ok (.dup, 1) := by decide +kernel
theorem dL_law_61 : decode cL_law 61 = .ok (.invokespecial 198, 3) := by decide +kernel
theorem dL_law_64 : decode cL_law 64 = .ok (.invokestatic 209, 3) := by decide +kernel
theorem dL_law_67 : decode cL_law 67 = .ok (.ifCond .ne 5, 3) := by decide +kernel
theorem dL_law_70 : decode cL_law 70 = .ok (.iconst 0, 1) := by decide +kernel
theorem dL_law_71 : decode cL_law 71 = .ok (.ireturn, 1) := by decide +kernel
theorem dL_law_72 : decode cL_law 72 = .ok (.iconst 0, 1) := by decide +kernel
theorem dL_law_73 : decode cL_law 73 = .ok (.istore_n 3, 1) := by decide +kernel
theorem dL_law_74 : decode cL_law 74 = .ok (.iload_n 3, 1) := by decide +kernel
theorem dL_law_75 : decode cL_law 75 = .ok (.iconst 2, 1) := by decide +kernel
theorem dL_law_76 : decode cL_law 76 = .ok (.if_icmp .ge 286, 3) := by decide +kernel
theorem dL_law_79 : decode cL_law 79 = .ok (.aload_n 2, 1) := by decide +kernel
theorem dL_law_80 : decode cL_law 80 = .ok (.aload_n 1, 1) := by decide +kernel
theorem dL_law_81 : decode cL_law 81 = .ok (.aload_n 0, 1) := by decide +kernel
theorem dL_law_82 : decode cL_law 82 = .ok (.bipush 30, 2) := by decide +kernel
theorem dL_law_84 : decode cL_law 84 = .ok (.iload_n 3, 1) := by decide +kernel
theorem dL_law_85 : decode cL_law 85 = .ok (.imul, 1) := by decide +kernel
theorem dL_law_86 : decode cL_law 86 = .ok (.iconst 2, 1) := by decide +kernel
theorem dL_law_87 : decode cL_law 87 = .ok (.aload_n 0, 1) := by decide +kernel
theorem dL_law_88 : decode cL_law 88 = .ok (.bipush 30, 2) := by decide +kernel
theorem dL_law_90 : decode cL_law 90 = .ok (.iload_n 3, 1) := by decide +kernel
theorem dL_law_91 : decode cL_law 91 = .ok (.imul, 1) := by decide +kernel
theorem dL_law_92 : decode cL_law 92 = .ok (.bipush 20, 2) := by decide +kernel
theorem dL_law_94 : decode cL_law 94 = .ok (.iadd, 1) := by decide +kernel
theorem dL_law_95 : decode cL_law 95 = .ok (.invokestatic 19, 3) := by decide +kernel
theorem dL_law_98 : decode cL_law 98 = .ok (.iconst 5, 1) := by decide +kernel
theorem dL_law_99 : decode cL_law 99 = .ok (.invokestatic 25, 3) := by decide +kernel
theorem dL_law_102 : decode cL_law 102 = .ok (.iadd, 1) := by decide +kernel
theorem dL_law_103 : decode cL_law 103 = .ok (.bipush 9, 2) := by decide +kernel
theorem dL_law_105 : decode cL_law 105 = .ok (.invokestatic 212, 3) := by decide +kernel
theorem dL_law_108 : decode cL_law 108 = .ok (.ifCond .eq 10, 3) := by decide +kernel
theorem dL_law_111 : decode cL_law 111 = .ok (.aload_n 2, 1) := by decide +kernel
theorem dL_law_112 : decode cL_law 112 = .ok (.invokestatic 202, 3) := by decide +kernel
theorem dL_law_115 : decode cL_law 115 = .ok (.ifCond .ne 5, 3) := by decide +kernel
theorem dL_law_118 : decode cL_law 118 = .ok (.iconst 0, 1) := by decide +kernel
theorem dL_law_119 : decode cL_law 119 = .ok (.ireturn, 1) := by decide +kernel
theorem dL_law_120 : decode cL_law 120 = .ok (.bipush 9, 2) := by decide +kernel
theorem dL_law_122 : decode cL_law 122 = .ok (.newarray .long, 2) := by decide +kernel
theorem dL_law_124 : decode cL_law 124 = .ok (.astore 4, 2) := by decide +kernel
theorem dL_law_126 : decode cL_law 126 = .ok (.iconst 0, 1) := by decide +kernel
theorem dL_law_127 : decode cL_law 127 = .ok (.istore 5, 2) := by decide +kernel
theorem dL_law_129 : decode cL_law 129 = .ok (.iload 5, 2) := by decide +kernel
theorem dL_law_131 : decode cL_law 131 = .ok (.bipush 9, 2) := by decide +kernel
theorem dL_law_133 : decode cL_law 133 = .ok (.if_icmp .ge 159, 3) := by decide +kernel
theorem dL_law_136 : decode cL_law 136 = .ok (.aload 4, 2) := by decide +kernel
theorem dL_law_138 : decode cL_law 138 = .ok (.iload 5, 2) := by decide +kernel
theorem dL_law_140 : decode cL_law 140 = .ok (.aload_n 2, 1) := by decide +kernel
theorem dL_law_141 : decode cL_law 141 = .ok (.invokestatic 57, 3) := by decide +kernel
theorem dL_law_144 : decode cL_law 144 = .ok (.lastore, 1) := by decide +kernel
theorem dL_law_145 : decode cL_law 145 = .ok (.aload_n 0, 1) := by decide +kernel
theorem dL_law_146 : decode cL_law 146 = .ok (.bipush 30, 2) := by decide +kernel
theorem dL_law_148 : decode cL_law 148 = .ok (.iload_n 3, 1) := by decide +kernel
theorem dL_law_149 : decode cL_law 149 = .ok (.imul, 1) := by decide +kernel
theorem dL_law_150 : decode cL_law 150 = .ok (.bipush 21, 2) := by decide +kernel
theorem dL_law_152 : decode cL_law 152 = .ok (.iadd, 1) := by decide +kernel
theorem dL_law_153 : decode cL_law 153 = .ok (.iload 5, 2) := by decide +kernel
theorem dL_law_155 : decode cL_law 155 = .ok (.iadd, 1) := by decide +kernel
theorem dL_law_156 : decode cL_law 156 = .ok (.invokestatic 19, 3) := by decide +kernel
theorem dL_law_159 : decode cL_law 159 = .ok (.istore 6, 2) := by decide +kernel
theorem dL_law_161 : decode cL_law 161 = .ok (.aload_n 2, 1) := by decide +kernel
theorem dL_law_162 : decode cL_law 162 = .ok (.invokevirtual 41, 3) := by decide +kernel
theorem dL_law_165 : decode cL_law 165 = .ok (.istore 7, 2) := by decide +kernel
theorem dL_law_167 : decode cL_law 167 = .ok (.iload 7, 2) := by decide +kernel
theorem dL_law_169 : decode cL_law 169 = .ok (.ifCond .le 34, 3) := by decide +kernel
theorem dL_law_172 : decode cL_law 172 = .ok (.iload 6, 2) := by decide +kernel
theorem dL_law_174 : decode cL_law 174 = .ok (.iconst 3, 1) := by decide +kernel
theorem dL_law_175 : decode cL_law 175 = .ok (.invokestatic 25, 3) := by decide +kernel
theorem dL_law_178 : decode cL_law 178 = .ok (.ifCond .ne 25, 3) := by decide +kernel
theorem dL_law_181 : decode cL_law 181 = .ok (.aload_n 2, 1) := by decide +kernel
theorem dL_law_182 : decode cL_law 182 = .ok (.iload 6, 2) := by decide +kernel
theorem dL_law_184 : decode cL_law 184 = .ok (.iconst 2, 1) := by decide +kernel
theorem dL_law_185 : decode cL_law 185 = .ok (.ishr, 1) := by decide +kernel
theorem dL_law_186 : decode cL_law 186 = .ok (.iload 7, 2) := by decide +kernel
theorem dL_law_188 : decode cL_law 188 = .ok (.invokestatic 25, 3) := by decide +kernel
theorem dL_law_191 : decode cL_law 191 = .ok (.invokevirtual 61, 3) := by decide +kernel
theorem dL_law_194 : decode cL_law 194 = .ok (.iload 7, 2) := by decide +kernel
theorem dL_law_196 : decode cL_law 196 = .ok (.iconst 1, 1) := by decide +kernel
theorem dL_law_197 : decode cL_law 197 = .ok (.isub, 1) := by decide +kernel
theorem dL_law_198 : decode cL_law 198 = .ok (.if_icmp .eq 88, 3) := by decide +kernel
theorem dL_law_201 : decode cL_law 201 = .ok (.iconst 0, 1) := by decide +kernel
theorem dL_law_202 : decode cL_law 202 = .ok (.ireturn, 1) := by decide +kernel
theorem dL_law_203 : decode cL_law 203 = .ok (.iload 7, 2) := by decide +kernel
theorem dL_law_205 : decode cL_law 205 = .ok (.ifCond .le 13, 3) := by decide +kernel
theorem dL_law_208 : decode cL_law 208 = .ok (.iload 6, 2) := by decide +kernel
theorem dL_law_210 : decode cL_law 210 = .ok (.iconst 3, 1) := by decide +kernel
theorem dL_law_211 : decode cL_law 211 = .ok (.invokestatic 25, 3) := by decide +kernel
theorem dL_law_214 : decode cL_law 214 = .ok (.iconst 1, 1) := by decide +kernel
theorem dL_law_215 : decode cL_law 215 = .ok (.if_icmp .eq 10, 3) := by decide +kernel
theorem dL_law_218 : decode cL_law 218 = .ok (.iload 7, 2) := by decide +kernel
theorem dL_law_220 : decode cL_law 220 = .ok (.bipush 9, 2) := by decide +kernel
theorem dL_law_222 : decode cL_law 222 = .ok (.if_icmp .ne 21, 3) := by decide +kernel
theorem dL_law_225 : decode cL_law 225 = .ok (.aload_n 2, 1) := by decide +kernel
theorem dL_law_226 : decode cL_law 226 = .ok (.iload 6, 2) := by decide +kernel
theorem dL_law_228 : decode cL_law 228 = .ok (.iconst 2, 1) := by decide +kernel
theorem dL_law_229 : decode cL_law 229 = .ok (.ishr, 1) := by decide +kernel
theorem dL_law_230 : decode cL_law 230 = .ok (.iload 7, 2) := by decide +kernel
theorem dL_law_232 : decode cL_law 232 = .ok (.invokestatic 25, 3) := by decide +kernel
theorem dL_law_235 : decode cL_law 235 = .ok (.invokevirtual 64, 3) := by decide +kernel
theorem dL_law_238 : decode cL_law 238 = .ok (.ifCond .ne 48, 3) := by decide +kernel
theorem dL_law_241 : decode cL_law 241 = .ok (.iconst 0, 1) := by decide +kernel
theorem dL_law_242 : decode cL_law 242 = .ok (.ireturn, 1) := by decide +kernel
theorem dL_law_243 : decode cL_law 243 = .ok (.iload 5, 2) := by decide +kernel
theorem dL_law_245 : decode cL_law 245 = .ok (.bipush 7, 2) := by decide +kernel
theorem dL_law_247 : decode cL_law 247 = .ok (.if_icmp .ne 12, 3) := by decide +kernel
theorem dL_law_250 : decode cL_law 250 = .ok (.aload_n 2, 1) := by decide +kernel
theorem dL_law_251 : decode cL_law 251 = .ok (.invokevirtual 124, 3) := by decide +kernel
theorem dL_law_254 : decode cL_law 254 = .ok (.ifCond .eq 32, 3) := by decide +kernel
theorem dL_law_257 : decode cL_law 257 = .ok (.iconst 0, 1) := by decide +kernel
theorem dL_law_258 : decode cL_law 258 = .ok (.ireturn, 1) := by decide +kernel
theorem dL_law_259 : decode cL_law 259 = .ok (.aload_n 2, 1) := by decide +kernel
theorem dL_law_260 : decode cL_law 260 = .ok (.iconst 0, 1) := by decide +kernel
theorem dL_law_261 : decode cL_law 261 = .ok (.iconst 1, 1) := by decide +kernel
theorem dL_law_262 : decode cL_law 262 = .ok (.iload 6, 2) := by decide +kernel
theorem dL_law_264 : decode cL_law 264 = .ok (.iconst 2, 1) := by decide +kernel
theorem dL_law_265 : decode cL_law 265 = .ok (.invokestatic 25, 3) := by decide +kernel
theorem dL_law_268 : decode cL_law 268 = .ok (.ifCond .ne 7, 3) := by decide +kernel
theorem dL_law_271 : decode cL_law 271 = .ok (.iconst 1, 1) := by decide +kernel
theorem dL_law_272 : decode cL_law 272 = .ok (.goto 4, 3) := by decide +kernel
theorem dL_law_275 : decode cL_law 275 = .ok (.iconst (-1), 1) := by decide +kernel
theorem dL_law_276 : decode cL_law 276 = .ok (.invokevirtual 29, 3) := by decide +kernel
theorem dL_law_279 : decode cL_law 279 = .ok (.iload 7, 2) := by decide +kernel
theorem dL_law_281 : decode cL_law 281 = .ok (.if_icmp .eq 5, 3) := by decide +kernel
theorem dL_law_284 : decode cL_law 284 = .ok (.iconst 0, 1) := by decide +kernel
theorem dL_law_285 : decode cL_law 285 = .ok (.ireturn, 1) := by decide +kernel
theorem dL_law_286 : decode cL_law 286 = .ok (.iinc 5 1, 3) := by decide +kernel
theorem dL_law_289 : decode cL_law 289 = .ok (.goto (-160), 3) := by decide +kernel
theorem dL_law_292 : decode cL_law 292 = .ok (.bipush 8, 2) := by decide +kernel
theorem dL_law_294 : decode cL_law 294 = .ok (.istore 5, 2) := by decide +kernel
theorem dL_law_296 : decode cL_law 296 = .ok (.iload 5, 2) := by decide +kernel
theorem dL_law_298 : decode cL_law 298 = .ok (.ifCond .le 35, 3) := by decide +kernel
theorem dL_law_301 : decode cL_law 301 = .ok (.aload_n 2, 1) := by decide +kernel
theorem dL_law_302 : decode cL_law 302 = .ok (.invokevirtual 199, 3) := by decide +kernel
theorem dL_law_305 : decode cL_law 305 = .ok (.iload 5, 2) := by decide +kernel
theorem dL_law_307 : decode cL_law 307 = .ok (.iconst 1, 1) := by decide +kernel
theorem dL_law_308 : decode cL_law 308 = .ok (.isub, 1) := by decide +kernel
theorem dL_law_309 : decode cL_law 309 = .ok (.if_icmp .ne 16, 3) := by decide +kernel
theorem dL_law_312 : decode cL_law 312 = .ok (.aload_n 2, 1) := by decide +kernel
theorem dL_law_313 : decode cL_law 313 = .ok (.invokestatic 57, 3) := by decide +kernel
theorem dL_law_316 : decode cL_law 316 = .ok (.aload 4, 2) := by decide +kernel
theorem dL_law_318 : decode cL_law 318 = .ok (.iload 5, 2) := by decide +kernel
theorem dL_law_320 : decode cL_law 320 = .ok (.laload, 1) := by decide +kernel
theorem dL_law_321 : decode cL_law 321 = .ok (.lcmp, 1) := by decide +kernel
theorem dL_law_322 : decode cL_law 322 = .ok (.ifCond .eq 5, 3) := by decide +kernel
theorem dL_law_325 : decode cL_law 325 = .ok (.iconst 0, 1) := by decide +kernel
theorem dL_law_326 : decode cL_law 326 = .ok (.ireturn, 1) := by decide +kernel
theorem dL_law_327 : decode cL_law 327 = .ok (.iinc 5 (-1), 3) := by decide +kernel
theorem dL_law_330 : decode cL_law 330 = .ok (.goto (-34), 3) := by decide +kernel
theorem dL_law_333 : decode cL_law 333 = .ok (.aload_n 2, 1) := by decide +kernel
theorem dL_law_334 : decode cL_law 334 = .ok (.invokevirtual 199, 3) := by decide +kernel
theorem dL_law_337 : decode cL_law 337 = .ok (.bipush (-2), 2) := by decide +kernel
theorem dL_law_339 : decode cL_law 339 = .ok (.if_icmp .ne 15, 3) := by decide +kernel
theorem dL_law_342 : decode cL_law 342 = .ok (.aload_n 2, 1) := by decide +kernel
theorem dL_law_343 : decode cL_law 343 = .ok (.invokestatic 57, 3) := by decide +kernel
theorem dL_law_346 : decode cL_law 346 = .ok (.aload 4, 2) := by decide +kernel
theorem dL_law_348 : decode cL_law 348 = .ok (.iconst 1, 1) := by decide +kernel
theorem dL_law_349 : decode cL_law 349 = .ok (.laload, 1) := by decide +kernel
theorem dL_law_350 : decode cL_law 350 = .ok (.lcmp, 1) := by decide +kernel
theorem dL_law_351 : decode cL_law 351 = .ok (.ifCond .eq 5, 3) := by decide +kernel
theorem dL_law_354 : decode cL_law 354 = .ok (.iconst 0, 1) := by decide +kernel
theorem dL_law_355 : decode cL_law 355 = .ok (.ireturn, 1) := by decide +kernel
theorem dL_law_356 : decode cL_law 356 = .ok (.iinc 3 1, 3) := by decide +kernel
theorem dL_law_359 : decode cL_law 359 = .ok (.goto (-285), 3) := by decide +kernel
theorem dL_law_362 : decode cL_law 362 = .ok (.iconst 1, 1) := by decide +kernel
theorem dL_law_363 : decode cL_law 363 = .ok (.ireturn, 1) := by decide +kernel
