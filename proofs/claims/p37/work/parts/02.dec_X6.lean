theorem dX6_init_0 : decode cX6_init 0 = .ok (.aload_n 0, 1) := by decide +kernel
theorem dX6_init_1 : decode cX6_init 1 = .ok (.invokespecial 3, 3) := by decide +kernel
theorem dX6_init_4 : decode cX6_init 4 = .ok (.aload_n 0, 1) := by decide +kernel
theorem dX6_init_5 : decode cX6_init 5 = .ok (.bipush 19, 2) := by decide +kernel
theorem dX6_init_7 : decode cX6_init 7 = .ok (.newarray .long, 2) := by decide +kernel
theorem dX6_init_9 : decode cX6_init 9 = .ok (.putfield 9, 3) := by decide +kernel
theorem dX6_init_12 : decode cX6_init 12 = .ok (.aload_n 0, 1) := by decide +kernel
theorem dX6_init_13 : decode cX6_init 13 = .ok (.bipush 64, 2) := by decide +kernel
theorem dX6_init_15 : decode cX6_init 15 = .ok (.bipush 13, 2) := by decide +kernel
theorem dX6_init_17 : decode cX6_init 17 = .ok (.multianewarray 15 2, 4) := by decide +kernel
theorem dX6_init_21 : decode cX6_init 21 = .ok (.putfield 17, 3) := by decide +kernel
theorem dX6_init_24 : decode cX6_init 24 = .ok (.return_, 1) := by decide +kernel
theorem dX6_makeFrom_0 : decode cX6_makeFrom 0 = .ok (.aload_n 0, 1) := by decide +kernel
theorem dX6_makeFrom_1 : decode cX6_makeFrom 1 = .ok (.getfield 17, 3) := by decide +kernel
theorem dX6_makeFrom_4 : decode cX6_makeFrom 4 = .ok (.iconst 0, 1) := by decide +kernel
theorem dX6_makeFrom_5 : decode cX6_makeFrom 5 = .ok (.aaload, 1) := by decide +kernel
theorem dX6_makeFrom_6 : decode cX6_makeFrom 6 = .ok (.lconst 0, 1) := by decide +kernel
theorem dX6_makeFrom_7 : decode cX6_makeFrom 7 = .ok (.invokestatic 20, 3) := by decide +kernel
theorem dX6_makeFrom_10 : decode cX6_makeFrom 10 = .ok (.aload_n 0, 1) := by decide +kernel
theorem dX6_makeFrom_11 : decode cX6_makeFrom 11 = .ok (.getfield 17, 3) := by decide +kernel
theorem dX6_makeFrom_14 : decode cX6_makeFrom 14 = .ok (.iconst 0, 1) := by decide +kernel
theorem dX6_makeFrom_15 : decode cX6_makeFrom 15 = .ok (.aaload, 1) := by decide +kernel
theorem dX6_makeFrom_16 : decode cX6_makeFrom 16 = .ok (.iconst 0, 1) := by decide +kernel
theorem dX6_makeFrom_17 : decode cX6_makeFrom 17 = .ok (.lconst 1, 1) := by decide +kernel
theorem dX6_makeFrom_18 : decode cX6_makeFrom 18 = .ok (.lastore, 1) := by decide +kernel
theorem dX6_makeFrom_19 : decode cX6_makeFrom 19 = .ok (.iconst 1, 1) := by decide +kernel
theorem dX6_makeFrom_20 : decode cX6_makeFrom 20 = .ok (.aload_n 1, 1) := by decide +kernel
theorem dX6_makeFrom_21 : decode cX6_makeFrom 21 = .ok (.getfield 26, 3) := by decide +kernel
theorem dX6_makeFrom_24 : decode cX6_makeFrom 24 = .ok (.ishl, 1) := by decide +kernel
theorem dX6_makeFrom_25 : decode cX6_makeFrom 25 = .ok (.iconst 1, 1) := by decide +kernel
theorem dX6_makeFrom_26 : decode cX6_makeFrom 26 = .ok (.isub, 1) := by decide +kernel
theorem dX6_makeFrom_27 : decode cX6_makeFrom 27 = .ok (.istore_n 2, 1) := by decide +kernel
theorem dX6_makeFrom_28 : decode cX6_makeFrom 28 = .ok (.iconst 1, 1) := by decide +kernel
theorem dX6_makeFrom_29 : decode cX6_makeFrom 29 = .ok (.istore_n 3, 1) := by decide +kernel
theorem dX6_makeFrom_30 : decode cX6_makeFrom 30 = .ok (.iload_n 3, 1) := by decide +kernel
theorem dX6_makeFrom_31 : decode cX6_makeFrom 31 = .ok (.iload_n 2, 1) := by decide +kernel
theorem dX6_makeFrom_32 : decode cX6_makeFrom 32 = .ok (.if_icmp .gt 15, 3) := by decide +kernel
theorem dX6_makeFrom_35 : decode cX6_makeFrom 35 = .ok (.aload_n 0, 1) := by decide +kernel
theorem dX6_makeFrom_36 : decode cX6_makeFrom 36 = .ok (.aload_n 1, 1) := by decide +kernel
theorem dX6_makeFrom_37 : decode cX6_makeFrom 37 = .ok (.iload_n 3, 1) := by decide +kernel
theorem dX6_makeFrom_38 : decode cX6_makeFrom 38 = .ok (.invokevirtual 32, 3) := by decide +kernel
theorem dX6_makeFrom_41 : decode cX6_makeFrom 41 = .ok (.iinc 3 1, 3) := by decide +kernel
theorem dX6_makeFrom_44 : decode cX6_makeFrom 44 = .ok (.goto (-14), 3) := by decide +kernel
theorem dX6_makeFrom_47 : decode cX6_makeFrom 47 = .ok (.aload_n 0, 1) := by decide +kernel
theorem dX6_makeFrom_48 : decode cX6_makeFrom 48 = .ok (.getfield 9, 3) := by decide +kernel
theorem dX6_makeFrom_51 : decode cX6_makeFrom 51 = .ok (.lconst 0, 1) := by decide +kernel
theorem dX6_makeFrom_52 : decode cX6_makeFrom 52 = .ok (.invokestatic 20, 3) := by decide +kernel
theorem dX6_makeFrom_55 : decode cX6_makeFrom 55 = .ok (.aload_n 0, 1) := by decide +kernel
theorem dX6_makeFrom_56 : decode cX6_makeFrom 56 = .ok (.getfield 17, 3) := by decide +kernel
theorem dX6_makeFrom_59 : decode cX6_makeFrom 59 = .ok (.iload_n 2, 1) := by decide +kernel
theorem dX6_makeFrom_60 : decode cX6_makeFrom 60 = .ok (.aaload, 1) := by decide +kernel
theorem dX6_makeFrom_61 : decode cX6_makeFrom 61 = .ok (.iconst 0, 1) := by decide +kernel
theorem dX6_makeFrom_62 : decode cX6_makeFrom 62 = .ok (.aload_n 0, 1) := by decide +kernel
theorem dX6_makeFrom_63 : decode cX6_makeFrom 63 = .ok (.getfield 9, 3) := by decide +kernel
theorem dX6_makeFrom_66 : decode cX6_makeFrom 66 = .ok (.iconst 0, 1) := by decide +kernel
theorem dX6_makeFrom_67 : decode cX6_makeFrom 67 = .ok (.bipush 13, 2) := by decide +kernel
theorem dX6_makeFrom_69 : decode cX6_makeFrom 69 = .ok (.invokestatic 36, 3) := by decide +kernel
theorem dX6_makeFrom_72 : decode cX6_makeFrom 72 = .ok (.return_, 1) := by decide +kernel
theorem dX6_turnIntoBass_0 : decode cX6_turnIntoBass 0 = .ok (.iconst 0, 1) := by decide +kernel
theorem dX6_turnIntoBass_1 : decode cX6_turnIntoBass 1 = .ok (.istore_n 2, 1) := by decide +kernel
theorem dX6_turnIntoBass_2 : decode cX6_turnIntoBass 2 = .ok (.iload_n 2, 1) := by decide +kernel
theorem dX6_turnIntoBass_3 : decode cX6_turnIntoBass 3 = .ok (.iload_n 1, 1) := by decide +kernel
theorem dX6_turnIntoBass_4 : decode cX6_turnIntoBass 4 = .ok (.if_icmp .ge 40, 3) := by decide +kernel
theorem dX6_turnIntoBass_7 : decode cX6_turnIntoBass 7 = .ok (.bipush 18, 2) := by decide +kernel
theorem dX6_turnIntoBass_9 : decode cX6_turnIntoBass 9 = .ok (.istore_n 3, 1) := by decide +kernel
theorem dX6_turnIntoBass_10 : decode cX6_turnIntoBass 10 = .ok (.iload_n 3, 1) := by decide +kernel
theorem dX6_turnIntoBass_11 : decode cX6_turnIntoBass 11 = .ok (.iconst 2, 1) := by decide +kernel
theorem dX6_turnIntoBass_12 : decode cX6_turnIntoBass 12 = .ok (.if_icmp .lt 26, 3) := by decide +kernel
theorem dX6_turnIntoBass_15 : decode cX6_turnIntoBass 15 = .ok (.aload_n 0, 1) := by decide +kernel
theorem dX6_turnIntoBass_16 : decode cX6_turnIntoBass 16 = .ok (.getfield 9, 3) := by decide +kernel
theorem dX6_turnIntoBass_19 : decode cX6_turnIntoBass 19 = .ok (.iload_n 3, 1) := by decide +kernel
theorem dX6_turnIntoBass_20 : decode cX6_turnIntoBass 20 = .ok (.dup2, 1) := by decide +kernel
theorem dX6_turnIntoBass_21 : decode cX6_turnIntoBass 21 = .ok (.laload, 1) := by decide +kernel
theorem dX6_turnIntoBass_22 : decode cX6_turnIntoBass 22 = .ok (.aload_n 0, 1) := by decide +kernel
theorem dX6_turnIntoBass_23 : decode cX6_turnIntoBass 23 = .ok (.getfield 9, 3) := by decide +kernel
theorem dX6_turnIntoBass_26 : decode cX6_turnIntoBass 26 = .ok (.iload_n 3, 1) := by decide +kernel
theorem dX6_turnIntoBass_27 : decode cX6_turnIntoBass 27 = .ok (.iconst 2, 1) := by decide +kernel
theorem dX6_turnIntoBass_28 : decode cX6_turnIntoBass 28 = .ok (.isub, 1) := by decide +kernel
theorem dX6_turnIntoBass_29 : decode cX6_turnIntoBass 29 = .ok (.laload, 1) := by decide +kernel
theorem dX6_turnIntoBass_30 : decode cX6_turnIntoBass 30 = .ok (.lsub, 1) := by decide +kernel
theorem dX6_turnIntoBass_31 : decode cX6_turnIntoBass 31 = .ok (.lastore, 1) := by decide +kernel
theorem dX6_turnIntoBass_32 : decode cX6_turnIntoBass 32 = .ok (.iinc 3 (-1), 3) := by decide +kernel
theorem dX6_turnIntoBass_35 : decode cX6_turnIntoBass 35 = .ok (.goto (-25), 3) := by decide +kernel
theorem dX6_turnIntoBass_38 : decode cX6_turnIntoBass 38 = .ok (.iinc 2 1, 3) := by decide +kernel
theorem dX6_turnIntoBass_41 : decode cX6_turnIntoBass 41 = .ok (.goto (-39), 3) := by decide +kernel
theorem dX6_turnIntoBass_44 : decode cX6_turnIntoBass 44 = .ok (.iconst 0, 1) := by decide +kernel
theorem dX6_turnIntoBass_45 : decode cX6_turnIntoBass 45 = .ok (.istore_n 2, 1) := by decide +kernel
theorem dX6_turnIntoBass_46 : decode cX6_turnIntoBass 46 = .ok (.iload_n 2, 1) := by decide +kernel
theorem dX6_turnIntoBass_47 : decode cX6_turnIntoBass 47 = .ok (.iload_n 1, 1) := by decide +kernel
theorem dX6_turnIntoBass_48 : decode cX6_turnIntoBass 48 = .ok (.ineg, 1) := by decide +kernel
theorem dX6_turnIntoBass_49 : decode cX6_turnIntoBass 49 = .ok (.if_icmp .ge 40, 3) := by decide +kernel
theorem dX6_turnIntoBass_52 : decode cX6_turnIntoBass 52 = .ok (.iconst 2, 1) := by decide +kernel
theorem dX6_turnIntoBass_53 : decode cX6_turnIntoBass 53 = .ok (.istore_n 3, 1) := by decide +kernel
theorem dX6_turnIntoBass_54 : decode cX6_turnIntoBass 54 = .ok (.iload_n 3, 1) := by decide +kernel
theorem dX6_turnIntoBass_55 : decode cX6_turnIntoBass 55 = .ok (.bipush 18, 2) := by decide +kernel
theorem dX6_turnIntoBass_57 : decode cX6_turnIntoBass 57 = .ok (.if_icmp .gt 26, 3) := by decide +kernel
theorem dX6_turnIntoBass_60 : decode cX6_turnIntoBass 60 = .ok (.aload_n 0, 1) := by decide +kernel
theorem dX6_turnIntoBass_61 : decode cX6_turnIntoBass 61 = .ok (.getfield 9, 3) := by decide +kernel
theorem dX6_turnIntoBass_64 : decode cX6_turnIntoBass 64 = .ok (.iload_n 3, 1) := by decide +kernel
theorem dX6_turnIntoBass_65 : decode cX6_turnIntoBass 65 = .ok (.dup2, 1) := by decide +kernel
theorem dX6_turnIntoBass_66 : decode cX6_turnIntoBass 66 = .ok (.laload, 1) := by decide +kernel
theorem dX6_turnIntoBass_67 : decode cX6_turnIntoBass 67 = .ok (.aload_n 0, 1) := by decide +kernel
theorem dX6_turnIntoBass_68 : decode cX6_turnIntoBass 68 = .ok (.getfield 9, 3) := by decide +kernel
theorem dX6_turnIntoBass_71 : decode cX6_turnIntoBass 71 = .ok (.iload_n 3, 1) := by decide +kernel
theorem dX6_turnIntoBass_72 : decode cX6_turnIntoBass 72 = .ok (.iconst 2, 1) := by decide +kernel
theorem dX6_turnIntoBass_73 : decode cX6_turnIntoBass 73 = .ok (.isub, 1) := by decide +kernel
theorem dX6_turnIntoBass_74 : decode cX6_turnIntoBass 74 = .ok (.laload, 1) := by decide +kernel
theorem dX6_turnIntoBass_75 : decode cX6_turnIntoBass 75 = .ok (.ladd, 1) := by decide +kernel
theorem dX6_turnIntoBass_76 : decode cX6_turnIntoBass 76 = .ok (.lastore, 1) := by decide +kernel
theorem dX6_turnIntoBass_77 : decode cX6_turnIntoBass 77 = .ok (.iinc 3 1, 3) := by decide +kernel
theorem dX6_turnIntoBass_80 : decode cX6_turnIntoBass 80 = .ok (.goto (-26), 3) := by decide +kernel
theorem dX6_turnIntoBass_83 : decode cX6_turnIntoBass 83 = .ok (.iinc 2 1, 3) := by decide +kernel
theorem dX6_turnIntoBass_86 : decode cX6_turnIntoBass 86 = .ok (.goto (-40), 3) := by decide +kernel
theorem dX6_turnIntoBass_89 : decode cX6_turnIntoBass 89 = .ok (.return_, 1) := by decide +kernel
theorem dX6_makeMinor_0 : decode cX6_makeMinor 0 = .ok (.aload_n 0, 1) := by decide +kernel
theorem dX6_makeMinor_1 : decode cX6_makeMinor 1 = .ok (.getfield 17, 3) := by decide +kernel
theorem dX6_makeMinor_4 : decode cX6_makeMinor 4 = .ok (.iload_n 2, 1) := by decide +kernel
theorem dX6_makeMinor_5 : decode cX6_makeMinor 5 = .ok (.aaload, 1) := by decide +kernel
theorem dX6_makeMinor_6 : decode cX6_makeMinor 6 = .ok (.astore_n 3, 1) := by decide +kernel
theorem dX6_makeMinor_7 : decode cX6_makeMinor 7 = .ok (.aload_n 3, 1) := by decide +kernel
theorem dX6_makeMinor_8 : decode cX6_makeMinor 8 = .ok (.lconst 0, 1) := by decide +kernel
theorem dX6_makeMinor_9 : decode cX6_makeMinor 9 = .ok (.invokestatic 20, 3) := by decide +kernel
theorem dX6_makeMinor_12 : decode cX6_makeMinor 12 = .ok (.iload_n 2, 1) := by decide +kernel
theorem dX6_makeMinor_13 : decode cX6_makeMinor 13 = .ok (.invokestatic 42, 3) := by decide +kernel
theorem dX6_makeMinor_16 : decode cX6_makeMinor 16 = .ok (.iconst 1, 1) := by decide +kernel
theorem dX6_makeMinor_17 : decode cX6_makeMinor 17 = .ok (.isub, 1) := by decide +kernel
theorem dX6_makeMinor_18 : decode cX6_makeMinor 18 = .ok (.istore 4, 2) := by decide +kernel
theorem dX6_makeMinor_20 : decode cX6_makeMinor 20 = .ok (.lconst 1, 1) := by decide +kernel
theorem dX6_makeMinor_21 : decode cX6_makeMinor 21 = .ok (.lstore 5, 2) := by decide +kernel
theorem dX6_makeMinor_23 : decode cX6_makeMinor 23 = .ok (.aload_n 1, 1) := by decide +kernel
theorem dX6_makeMinor_24 : decode cX6_makeMinor 24 = .ok (.getfield 26, 3) := by decide +kernel
theorem dX6_makeMinor_27 : decode cX6_makeMinor 27 = .ok (.iconst 1, 1) := by decide +kernel
theorem dX6_makeMinor_28 : decode cX6_makeMinor 28 = .ok (.isub, 1) := by decide +kernel
theorem dX6_makeMinor_29 : decode cX6_makeMinor 29 = .ok (.istore 7, 2) := by decide +kernel
theorem dX6_makeMinor_31 : decode cX6_makeMinor 31 = .ok (.iload 7, 2) := by decide +kernel
theorem dX6_makeMinor_33 : decode cX6_makeMinor 33 = .ok (.ifCond .lt 46, 3) := by decide +kernel
theorem dX6_makeMinor_36 : decode cX6_makeMinor 36 = .ok (.iload_n 2, 1) := by decide +kernel
theorem dX6_makeMinor_37 : decode cX6_makeMinor 37 = .ok (.iload 7, 2) := by decide +kernel
theorem dX6_makeMinor_39 : decode cX6_makeMinor 39 = .ok (.ishr, 1) := by decide +kernel
theorem dX6_makeMinor_40 : decode cX6_makeMinor 40 = .ok (.iconst 1, 1) := by decide +kernel
theorem dX6_makeMinor_41 : decode cX6_makeMinor 41 = .ok (.iand, 1) := by decide +kernel
theorem dX6_makeMinor_42 : decode cX6_makeMinor 42 = .ok (.iconst 1, 1) := by decide +kernel
theorem dX6_makeMinor_43 : decode cX6_makeMinor 43 = .ok (.if_icmp .ne 30, 3) := by decide +kernel
theorem dX6_makeMinor_46 : decode cX6_makeMinor 46 = .ok (.aload_n 1, 1) := by decide +kernel
theorem dX6_makeMinor_47 : decode cX6_makeMinor 47 = .ok (.iload 4, 2) := by decide +kernel
theorem dX6_makeMinor_49 : decode cX6_makeMinor 49 = .ok (.iload 7, 2) := by decide +kernel
theorem dX6_makeMinor_51 : decode cX6_makeMinor 51 = .ok (.lload 5, 2) := by decide +kernel
theorem dX6_makeMinor_53 : decode cX6_makeMinor 53 = .ok (.aload_n 0, 1) := by decide +kernel
theorem dX6_makeMinor_54 : decode cX6_makeMinor 54 = .ok (.getfield 17, 3) := by decide +kernel
theorem dX6_makeMinor_57 : decode cX6_makeMinor 57 = .ok (.iload_n 2, 1) := by decide +kernel
theorem dX6_makeMinor_58 : decode cX6_makeMinor 58 = .ok (.iconst 1, 1) := by decide +kernel
theorem dX6_makeMinor_59 : decode cX6_makeMinor 59 = .ok (.iload 7, 2) := by decide +kernel
theorem dX6_makeMinor_61 : decode cX6_makeMinor 61 = .ok (.ishl, 1) := by decide +kernel
theorem dX6_makeMinor_62 : decode cX6_makeMinor 62 = .ok (.ixor, 1) := by decide +kernel
theorem dX6_makeMinor_63 : decode cX6_makeMinor 63 = .ok (.aaload, 1) := by decide +kernel
theorem dX6_makeMinor_64 : decode cX6_makeMinor 64 = .ok (.aload_n 3, 1) := by decide +kernel
theorem dX6_makeMinor_65 : decode cX6_makeMinor 65 = .ok (.invokestatic 48, 3) := by decide +kernel
theorem dX6_makeMinor_68 : decode cX6_makeMinor 68 = .ok (.lload 5, 2) := by decide +kernel
theorem dX6_makeMinor_70 : decode cX6_makeMinor 70 = .ok (.lneg, 1) := by decide +kernel
theorem dX6_makeMinor_71 : decode cX6_makeMinor 71 = .ok (.lstore 5, 2) := by decide +kernel
theorem dX6_makeMinor_73 : decode cX6_makeMinor 73 = .ok (.iinc 7 (-1), 3) := by decide +kernel
theorem dX6_makeMinor_76 : decode cX6_makeMinor 76 = .ok (.goto (-45), 3) := by decide +kernel
theorem dX6_makeMinor_79 : decode cX6_makeMinor 79 = .ok (.return_, 1) := by decide +kernel
theorem dX6_addProduct_0 : decode cX6_addProduct 0 = .ok (.iload_n 1, 1) := by decide +kernel
theorem dX6_addProduct_1 : decode cX6_addProduct 1 = .ok (.iload_n 2, 1) := by decide +kernel
theorem dX6_addProduct_2 : decode cX6_addProduct 2 = .ok (.if_icmp .eq 22, 3) := by decide +kernel
theorem dX6_addProduct_5 : decode cX6_addProduct 5 = .ok (.aload 5, 2) := by decide +kernel
theorem dX6_addProduct_7 : decode cX6_addProduct 7 = .ok (.iconst 1, 1) := by decide +kernel
theorem dX6_addProduct_8 : decode cX6_addProduct 8 = .ok (.lload_n 3, 1) := by decide +kernel
theorem dX6_addProduct_9 : decode cX6_addProduct 9 = .ok (.lneg, 1) := by decide +kernel
theorem dX6_addProduct_10 : decode cX6_addProduct 10 = .ok (.aload_n 0, 1) := by decide +kernel
theorem dX6_addProduct_11 : decode cX6_addProduct 11 = .ok (.iload_n 1, 1) := by decide +kernel
theorem dX6_addProduct_12 : decode cX6_addProduct 12 = .ok (.iload_n 2, 1) := by decide +kernel
theorem dX6_addProduct_13 : decode cX6_addProduct 13 = .ok (.invokevirtual 52, 3) := by decide +kernel
theorem dX6_addProduct_16 : decode cX6_addProduct 16 = .ok (.i2l, 1) := by decide +kernel
theorem dX6_addProduct_17 : decode cX6_addProduct 17 = .ok (.lmul, 1) := by decide +kernel
theorem dX6_addProduct_18 : decode cX6_addProduct 18 = .ok (.aload 6, 2) := by decide +kernel
theorem dX6_addProduct_20 : decode cX6_addProduct 20 = .ok (.invokestatic 56, 3) := by decide +kernel
theorem dX6_addProduct_23 : decode cX6_addProduct 23 = .ok (.return_, 1) := by decide +kernel
theorem dX6_addProduct_24 : decode cX6_addProduct 24 = .ok (.aload 5, 2) := by decide +kernel
theorem dX6_addProduct_26 : decode cX6_addProduct 26 = .ok (.iconst 0, 1) := by decide +kernel
theorem dX6_addProduct_27 : decode cX6_addProduct 27 = .ok (.lload_n 3, 1) := by decide +kernel
theorem dX6_addProduct_28 : decode cX6_addProduct 28 = .ok (.aload 6, 2) := by decide +kernel
theorem dX6_addProduct_30 : decode cX6_addProduct 30 = .ok (.invokestatic 56, 3) := by decide +kernel
theorem dX6_addProduct_33 : decode cX6_addProduct 33 = .ok (.aload 5, 2) := by decide +kernel
theorem dX6_addProduct_35 : decode cX6_addProduct 35 = .ok (.iconst 2, 1) := by decide +kernel
theorem dX6_addProduct_36 : decode cX6_addProduct 36 = .ok (.lload_n 3, 1) := by decide +kernel
theorem dX6_addProduct_37 : decode cX6_addProduct 37 = .ok (.aload_n 0, 1) := by decide +kernel
theorem dX6_addProduct_38 : decode cX6_addProduct 38 = .ok (.iload_n 1, 1) := by decide +kernel
theorem dX6_addProduct_39 : decode cX6_addProduct 39 = .ok (.invokevirtual 60, 3) := by decide +kernel
theorem dX6_addProduct_42 : decode cX6_addProduct 42 = .ok (.iconst 1, 1) := by decide +kernel
theorem dX6_addProduct_43 : decode cX6_addProduct 43 = .ok (.isub, 1) := by decide +kernel
theorem dX6_addProduct_44 : decode cX6_addProduct 44 = .ok (.i2l, 1) := by decide +kernel
theorem dX6_addProduct_45 : decode cX6_addProduct 45 = .ok (.lmul, 1) := by decide +kernel
theorem dX6_addProduct_46 : decode cX6_addProduct 46 = .ok (.aload 6, 2) := by decide +kernel
theorem dX6_addProduct_48 : decode cX6_addProduct 48 = .ok (.invokestatic 56, 3) := by decide +kernel
theorem dX6_addProduct_51 : decode cX6_addProduct 51 = .ok (.return_, 1) := by decide +kernel
theorem dX6_addShifted_0 : decode cX6_addShifted 0 = .ok (.iload_n 1, 1) := by decide +kernel
theorem dX6_addShifted_1 : decode cX6_addShifted 1 = .ok (.istore 5, 2) := by decide +kernel
theorem dX6_addShifted_3 : decode cX6_addShifted 3 = .ok (.iload 5, 2) := by decide +kernel
theorem dX6_addShifted_5 : decode cX6_addShifted 5 = .ok (.bipush 12, 2) := by decide +kernel
theorem dX6_addShifted_7 : decode cX6_addShifted 7 = .ok (.if_icmp .gt 25, 3) := by decide +kernel
theorem dX6_addShifted_10 : decode cX6_addShifted 10 = .ok (.aload 4, 2) := by decide +kernel
theorem dX6_addShifted_12 : decode cX6_addShifted 12 = .ok (.iload 5, 2) := by decide +kernel
theorem dX6_addShifted_14 : decode cX6_addShifted 14 = .ok (.dup2, 1) := by decide +kernel
theorem dX6_addShifted_15 : decode cX6_addShifted 15 = .ok (.laload, 1) := by decide +kernel
theorem dX6_addShifted_16 : decode cX6_addShifted 16 = .ok (.lload_n 2, 1) := by decide +kernel
theorem dX6_addShifted_17 : decode cX6_addShifted 17 = .ok (.aload_n 0, 1) := by decide +kernel
theorem dX6_addShifted_18 : decode cX6_addShifted 18 = .ok (.iload 5, 2) := by decide +kernel
theorem dX6_addShifted_20 : decode cX6_addShifted 20 = .ok (.iload_n 1, 1) := by decide +kernel
theorem dX6_addShifted_21 : decode cX6_addShifted 21 = .ok (.isub, 1) := by decide +kernel
theorem dX6_addShifted_22 : decode cX6_addShifted 22 = .ok (.laload, 1) := by decide +kernel
theorem dX6_addShifted_23 : decode cX6_addShifted 23 = .ok (.lmul, 1) := by decide +kernel
theorem dX6_addShifted_24 : decode cX6_addShifted 24 = .ok (.ladd, 1) := by decide +kernel
theorem dX6_addShifted_25 : decode cX6_addShifted 25 = .ok (.lastore, 1) := by decide +kernel
theorem dX6_addShifted_26 : decode cX6_addShifted 26 = .ok (.iinc 5 1, 3) := by decide +kernel
theorem dX6_addShifted_29 : decode cX6_addShifted 29 = .ok (.goto (-26), 3) := by decide +kernel
theorem dX6_addShifted_32 : decode cX6_addShifted 32 = .ok (.return_, 1) := by decide +kernel
