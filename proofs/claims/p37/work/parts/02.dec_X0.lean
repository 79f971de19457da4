theorem dX0_init_0 : decode cX0_init 0 = .ok (.aload_n 0, 1) := by decide +kernel
theorem dX0_init_1 : decode cX0_init 1 = .ok (.invokespecial 3, 3) := by decide +kernel
theorem dX0_init_4 : decode cX0_init 4 = .ok (.aload_n 0, 1) := by decide +kernel
theorem dX0_init_5 : decode cX0_init 5 = .ok (.bipush 19, 2) := by decide +kernel
theorem dX0_init_7 : decode cX0_init 7 = .ok (.newarray .long, 2) := by decide +kernel
theorem dX0_init_9 : decode cX0_init 9 = .ok (.putfield 9, 3) := by decide +kernel
theorem dX0_init_12 : decode cX0_init 12 = .ok (.aload_n 0, 1) := by decide +kernel
theorem dX0_init_13 : decode cX0_init 13 = .ok (.bipush 19, 2) := by decide +kernel
theorem dX0_init_15 : decode cX0_init 15 = .ok (.newarray .long, 2) := by decide +kernel
theorem dX0_init_17 : decode cX0_init 17 = .ok (.putfield 15, 3) := by decide +kernel
theorem dX0_init_20 : decode cX0_init 20 = .ok (.return_, 1) := by decide +kernel
theorem dX0_makeFrom_0 : decode cX0_makeFrom 0 = .ok (.aload_n 0, 1) := by decide +kernel
theorem dX0_makeFrom_1 : decode cX0_makeFrom 1 = .ok (.getfield 9, 3) := by decide +kernel
theorem dX0_makeFrom_4 : decode cX0_makeFrom 4 = .ok (.iconst 0, 1) := by decide +kernel
theorem dX0_makeFrom_5 : decode cX0_makeFrom 5 = .ok (.lconst 1, 1) := by decide +kernel
theorem dX0_makeFrom_6 : decode cX0_makeFrom 6 = .ok (.lastore, 1) := by decide +kernel
theorem dX0_makeFrom_7 : decode cX0_makeFrom 7 = .ok (.iconst 1, 1) := by decide +kernel
theorem dX0_makeFrom_8 : decode cX0_makeFrom 8 = .ok (.istore_n 2, 1) := by decide +kernel
theorem dX0_makeFrom_9 : decode cX0_makeFrom 9 = .ok (.iload_n 2, 1) := by decide +kernel
theorem dX0_makeFrom_10 : decode cX0_makeFrom 10 = .ok (.bipush 18, 2) := by decide +kernel
theorem dX0_makeFrom_12 : decode cX0_makeFrom 12 = .ok (.if_icmp .gt 54, 3) := by decide +kernel
theorem dX0_makeFrom_15 : decode cX0_makeFrom 15 = .ok (.lconst 0, 1) := by decide +kernel
theorem dX0_makeFrom_16 : decode cX0_makeFrom 16 = .ok (.lstore_n 3, 1) := by decide +kernel
theorem dX0_makeFrom_17 : decode cX0_makeFrom 17 = .ok (.iconst 1, 1) := by decide +kernel
theorem dX0_makeFrom_18 : decode cX0_makeFrom 18 = .ok (.istore 5, 2) := by decide +kernel
theorem dX0_makeFrom_20 : decode cX0_makeFrom 20 = .ok (.iload 5, 2) := by decide +kernel
theorem dX0_makeFrom_22 : decode cX0_makeFrom 22 = .ok (.iload_n 2, 1) := by decide +kernel
theorem dX0_makeFrom_23 : decode cX0_makeFrom 23 = .ok (.if_icmp .gt 26, 3) := by decide +kernel
theorem dX0_makeFrom_26 : decode cX0_makeFrom 26 = .ok (.lload_n 3, 1) := by decide +kernel
theorem dX0_makeFrom_27 : decode cX0_makeFrom 27 = .ok (.aload_n 1, 1) := by decide +kernel
theorem dX0_makeFrom_28 : decode cX0_makeFrom 28 = .ok (.iload 5, 2) := by decide +kernel
theorem dX0_makeFrom_30 : decode cX0_makeFrom 30 = .ok (.laload, 1) := by decide +kernel
theorem dX0_makeFrom_31 : decode cX0_makeFrom 31 = .ok (.aload_n 0, 1) := by decide +kernel
theorem dX0_makeFrom_32 : decode cX0_makeFrom 32 = .ok (.getfield 9, 3) := by decide +kernel
theorem dX0_makeFrom_35 : decode cX0_makeFrom 35 = .ok (.iload_n 2, 1) := by decide +kernel
theorem dX0_makeFrom_36 : decode cX0_makeFrom 36 = .ok (.iload 5, 2) := by decide +kernel
theorem dX0_makeFrom_38 : decode cX0_makeFrom 38 = .ok (.isub, 1) := by decide +kernel
theorem dX0_makeFrom_39 : decode cX0_makeFrom 39 = .ok (.laload, 1) := by decide +kernel
theorem dX0_makeFrom_40 : decode cX0_makeFrom 40 = .ok (.lmul, 1) := by decide +kernel
theorem dX0_makeFrom_41 : decode cX0_makeFrom 41 = .ok (.ladd, 1) := by decide +kernel
theorem dX0_makeFrom_42 : decode cX0_makeFrom 42 = .ok (.lstore_n 3, 1) := by decide +kernel
theorem dX0_makeFrom_43 : decode cX0_makeFrom 43 = .ok (.iinc 5 1, 3) := by decide +kernel
theorem dX0_makeFrom_46 : decode cX0_makeFrom 46 = .ok (.goto (-26), 3) := by decide +kernel
theorem dX0_makeFrom_49 : decode cX0_makeFrom 49 = .ok (.aload_n 0, 1) := by decide +kernel
theorem dX0_makeFrom_50 : decode cX0_makeFrom 50 = .ok (.getfield 9, 3) := by decide +kernel
theorem dX0_makeFrom_53 : decode cX0_makeFrom 53 = .ok (.iload_n 2, 1) := by decide +kernel
theorem dX0_makeFrom_54 : decode cX0_makeFrom 54 = .ok (.lload_n 3, 1) := by decide +kernel
theorem dX0_makeFrom_55 : decode cX0_makeFrom 55 = .ok (.lneg, 1) := by decide +kernel
theorem dX0_makeFrom_56 : decode cX0_makeFrom 56 = .ok (.iload_n 2, 1) := by decide +kernel
theorem dX0_makeFrom_57 : decode cX0_makeFrom 57 = .ok (.i2l, 1) := by decide +kernel
theorem dX0_makeFrom_58 : decode cX0_makeFrom 58 = .ok (.ldiv, 1) := by decide +kernel
theorem dX0_makeFrom_59 : decode cX0_makeFrom 59 = .ok (.lastore, 1) := by decide +kernel
theorem dX0_makeFrom_60 : decode cX0_makeFrom 60 = .ok (.iinc 2 1, 3) := by decide +kernel
theorem dX0_makeFrom_63 : decode cX0_makeFrom 63 = .ok (.goto (-54), 3) := by decide +kernel
theorem dX0_makeFrom_66 : decode cX0_makeFrom 66 = .ok (.return_, 1) := by decide +kernel
theorem dX0_inverseCoefficient_0 : decode cX0_inverseCoefficient 0 = .ok (.aload_n 0, 1) := by decide +kernel
theorem dX0_inverseCoefficient_1 : decode cX0_inverseCoefficient 1 = .ok (.getfield 15, 3) := by decide +kernel
theorem dX0_inverseCoefficient_4 : decode cX0_inverseCoefficient 4 = .ok (.iconst 0, 1) := by decide +kernel
theorem dX0_inverseCoefficient_5 : decode cX0_inverseCoefficient 5 = .ok (.lconst 1, 1) := by decide +kernel
theorem dX0_inverseCoefficient_6 : decode cX0_inverseCoefficient 6 = .ok (.lastore, 1) := by decide +kernel
theorem dX0_inverseCoefficient_7 : decode cX0_inverseCoefficient 7 = .ok (.iconst 1, 1) := by decide +kernel
theorem dX0_inverseCoefficient_8 : decode cX0_inverseCoefficient 8 = .ok (.istore_n 2, 1) := by decide +kernel
theorem dX0_inverseCoefficient_9 : decode cX0_inverseCoefficient 9 = .ok (.iload_n 2, 1) := by decide +kernel
theorem dX0_inverseCoefficient_10 : decode cX0_inverseCoefficient 10 = .ok (.iload_n 1, 1) := by decide +kernel
theorem dX0_inverseCoefficient_11 : decode cX0_inverseCoefficient 11 = .ok (.if_icmp .gt 54, 3) := by decide +kernel
theorem dX0_inverseCoefficient_14 : decode cX0_inverseCoefficient 14 = .ok (.lconst 0, 1) := by decide +kernel
theorem dX0_inverseCoefficient_15 : decode cX0_inverseCoefficient 15 = .ok (.lstore_n 3, 1) := by decide +kernel
theorem dX0_inverseCoefficient_16 : decode cX0_inverseCoefficient 16 = .ok (.iconst 1, 1) := by decide +kernel
theorem dX0_inverseCoefficient_17 : decode cX0_inverseCoefficient 17 = .ok (.istore 5, 2) := by decide +kernel
theorem dX0_inverseCoefficient_19 : decode cX0_inverseCoefficient 19 = .ok (.iload 5, 2) := by decide +kernel
theorem dX0_inverseCoefficient_21 : decode cX0_inverseCoefficient 21 = .ok (.iload_n 2, 1) := by decide +kernel
theorem dX0_inverseCoefficient_22 : decode cX0_inverseCoefficient 22 = .ok (.if_icmp .gt 29, 3) := by decide +kernel
theorem dX0_inverseCoefficient_25 : decode cX0_inverseCoefficient 25 = .ok (.lload_n 3, 1) := by decide +kernel
theorem dX0_inverseCoefficient_26 : decode cX0_inverseCoefficient 26 = .ok (.aload_n 0, 1) := by decide +kernel
theorem dX0_inverseCoefficient_27 : decode cX0_inverseCoefficient 27 = .ok (.getfield 9, 3) := by decide +kernel
theorem dX0_inverseCoefficient_30 : decode cX0_inverseCoefficient 30 = .ok (.iload 5, 2) := by decide +kernel
theorem dX0_inverseCoefficient_32 : decode cX0_inverseCoefficient 32 = .ok (.laload, 1) := by decide +kernel
theorem dX0_inverseCoefficient_33 : decode cX0_inverseCoefficient 33 = .ok (.aload_n 0, 1) := by decide +kernel
theorem dX0_inverseCoefficient_34 : decode cX0_inverseCoefficient 34 = .ok (.getfield 15, 3) := by decide +kernel
theorem dX0_inverseCoefficient_37 : decode cX0_inverseCoefficient 37 = .ok (.iload_n 2, 1) := by decide +kernel
theorem dX0_inverseCoefficient_38 : decode cX0_inverseCoefficient 38 = .ok (.iload 5, 2) := by decide +kernel
theorem dX0_inverseCoefficient_40 : decode cX0_inverseCoefficient 40 = .ok (.isub, 1) := by decide +kernel
theorem dX0_inverseCoefficient_41 : decode cX0_inverseCoefficient 41 = .ok (.laload, 1) := by decide +kernel
theorem dX0_inverseCoefficient_42 : decode cX0_inverseCoefficient 42 = .ok (.lmul, 1) := by decide +kernel
theorem dX0_inverseCoefficient_43 : decode cX0_inverseCoefficient 43 = .ok (.ladd, 1) := by decide +kernel
theorem dX0_inverseCoefficient_44 : decode cX0_inverseCoefficient 44 = .ok (.lstore_n 3, 1) := by decide +kernel
theorem dX0_inverseCoefficient_45 : decode cX0_inverseCoefficient 45 = .ok (.iinc 5 1, 3) := by decide +kernel
theorem dX0_inverseCoefficient_48 : decode cX0_inverseCoefficient 48 = .ok (.goto (-29), 3) := by decide +kernel
theorem dX0_inverseCoefficient_51 : decode cX0_inverseCoefficient 51 = .ok (.aload_n 0, 1) := by decide +kernel
theorem dX0_inverseCoefficient_52 : decode cX0_inverseCoefficient 52 = .ok (.getfield 15, 3) := by decide +kernel
theorem dX0_inverseCoefficient_55 : decode cX0_inverseCoefficient 55 = .ok (.iload_n 2, 1) := by decide +kernel
theorem dX0_inverseCoefficient_56 : decode cX0_inverseCoefficient 56 = .ok (.lload_n 3, 1) := by decide +kernel
theorem dX0_inverseCoefficient_57 : decode cX0_inverseCoefficient 57 = .ok (.lneg, 1) := by decide +kernel
theorem dX0_inverseCoefficient_58 : decode cX0_inverseCoefficient 58 = .ok (.lastore, 1) := by decide +kernel
theorem dX0_inverseCoefficient_59 : decode cX0_inverseCoefficient 59 = .ok (.iinc 2 1, 3) := by decide +kernel
theorem dX0_inverseCoefficient_62 : decode cX0_inverseCoefficient 62 = .ok (.goto (-53), 3) := by decide +kernel
theorem dX0_inverseCoefficient_65 : decode cX0_inverseCoefficient 65 = .ok (.aload_n 0, 1) := by decide +kernel
theorem dX0_inverseCoefficient_66 : decode cX0_inverseCoefficient 66 = .ok (.getfield 15, 3) := by decide +kernel
theorem dX0_inverseCoefficient_69 : decode cX0_inverseCoefficient 69 = .ok (.iload_n 1, 1) := by decide +kernel
theorem dX0_inverseCoefficient_70 : decode cX0_inverseCoefficient 70 = .ok (.laload, 1) := by decide +kernel
theorem dX0_inverseCoefficient_71 : decode cX0_inverseCoefficient 71 = .ok (.lreturn, 1) := by decide +kernel
theorem dX0_valueAt_0 : decode cX0_valueAt 0 = .ok (.lconst 0, 1) := by decide +kernel
theorem dX0_valueAt_1 : decode cX0_valueAt 1 = .ok (.lstore_n 3, 1) := by decide +kernel
theorem dX0_valueAt_2 : decode cX0_valueAt 2 = .ok (.bipush 18, 2) := by decide +kernel
theorem dX0_valueAt_4 : decode cX0_valueAt 4 = .ok (.istore 5, 2) := by decide +kernel
theorem dX0_valueAt_6 : decode cX0_valueAt 6 = .ok (.iload 5, 2) := by decide +kernel
theorem dX0_valueAt_8 : decode cX0_valueAt 8 = .ok (.ifCond .lt 21, 3) := by decide +kernel
theorem dX0_valueAt_11 : decode cX0_valueAt 11 = .ok (.lload_n 3, 1) := by decide +kernel
theorem dX0_valueAt_12 : decode cX0_valueAt 12 = .ok (.lload_n 1, 1) := by decide +kernel
theorem dX0_valueAt_13 : decode cX0_valueAt 13 = .ok (.lmul, 1) := by decide +kernel
theorem dX0_valueAt_14 : decode cX0_valueAt 14 = .ok (.aload_n 0, 1) := by decide +kernel
theorem dX0_valueAt_15 : decode cX0_valueAt 15 = .ok (.getfield 9, 3) := by decide +kernel
theorem dX0_valueAt_18 : decode cX0_valueAt 18 = .ok (.iload 5, 2) := by decide +kernel
theorem dX0_valueAt_20 : decode cX0_valueAt 20 = .ok (.laload, 1) := by decide +kernel
theorem dX0_valueAt_21 : decode cX0_valueAt 21 = .ok (.ladd, 1) := by decide +kernel
theorem dX0_valueAt_22 : decode cX0_valueAt 22 = .ok (.lstore_n 3, 1) := by decide +kernel
theorem dX0_valueAt_23 : decode cX0_valueAt 23 = .ok (.iinc 5 (-1), 3) := by decide +kernel
theorem dX0_valueAt_26 : decode cX0_valueAt 26 = .ok (.goto (-20), 3) := by decide +kernel
theorem dX0_valueAt_29 : decode cX0_valueAt 29 = .ok (.lload_n 3, 1) := by decide +kernel
theorem dX0_valueAt_30 : decode cX0_valueAt 30 = .ok (.lreturn, 1) := by decide +kernel
theorem dX0_coefficientAroundOne_0 : decode cX0_coefficientAroundOne 0 = .ok (.aload_n 0, 1) := by decide +kernel
theorem dX0_coefficientAroundOne_1 : decode cX0_coefficientAroundOne 1 = .ok (.getfield 9, 3) := by decide +kernel
theorem dX0_coefficientAroundOne_4 : decode cX0_coefficientAroundOne 4 = .ok (.iconst 0, 1) := by decide +kernel
theorem dX0_coefficientAroundOne_5 : decode cX0_coefficientAroundOne 5 = .ok (.aload_n 0, 1) := by decide +kernel
theorem dX0_coefficientAroundOne_6 : decode cX0_coefficientAroundOne 6 = .ok (.getfield 15, 3) := by decide +kernel
theorem dX0_coefficientAroundOne_9 : decode cX0_coefficientAroundOne 9 = .ok (.iconst 0, 1) := by decide +kernel
theorem dX0_coefficientAroundOne_10 : decode cX0_coefficientAroundOne 10 = .ok (.bipush 19, 2) := by decide +kernel
theorem dX0_coefficientAroundOne_12 : decode cX0_coefficientAroundOne 12 = .ok (.invokestatic 18, 3) := by decide +kernel
theorem dX0_coefficientAroundOne_15 : decode cX0_coefficientAroundOne 15 = .ok (.iconst 0, 1) := by decide +kernel
theorem dX0_coefficientAroundOne_16 : decode cX0_coefficientAroundOne 16 = .ok (.istore_n 2, 1) := by decide +kernel
theorem dX0_coefficientAroundOne_17 : decode cX0_coefficientAroundOne 17 = .ok (.iload_n 2, 1) := by decide +kernel
theorem dX0_coefficientAroundOne_18 : decode cX0_coefficientAroundOne 18 = .ok (.iload_n 1, 1) := by decide +kernel
theorem dX0_coefficientAroundOne_19 : decode cX0_coefficientAroundOne 19 = .ok (.if_icmp .gt 40, 3) := by decide +kernel
theorem dX0_coefficientAroundOne_22 : decode cX0_coefficientAroundOne 22 = .ok (.bipush 17, 2) := by decide +kernel
theorem dX0_coefficientAroundOne_24 : decode cX0_coefficientAroundOne 24 = .ok (.istore_n 3, 1) := by decide +kernel
theorem dX0_coefficientAroundOne_25 : decode cX0_coefficientAroundOne 25 = .ok (.iload_n 3, 1) := by decide +kernel
theorem dX0_coefficientAroundOne_26 : decode cX0_coefficientAroundOne 26 = .ok (.iload_n 2, 1) := by decide +kernel
theorem dX0_coefficientAroundOne_27 : decode cX0_coefficientAroundOne 27 = .ok (.if_icmp .lt 26, 3) := by decide +kernel
theorem dX0_coefficientAroundOne_30 : decode cX0_coefficientAroundOne 30 = .ok (.aload_n 0, 1) := by decide +kernel
theorem dX0_coefficientAroundOne_31 : decode cX0_coefficientAroundOne 31 = .ok (.getfield 15, 3) := by decide +kernel
theorem dX0_coefficientAroundOne_34 : decode cX0_coefficientAroundOne 34 = .ok (.iload_n 3, 1) := by decide +kernel
theorem dX0_coefficientAroundOne_35 : decode cX0_coefficientAroundOne 35 = .ok (.dup2, 1) := by decide +kernel
theorem dX0_coefficientAroundOne_36 : decode cX0_coefficientAroundOne 36 = .ok (.laload, 1) := by decide +kernel
theorem dX0_coefficientAroundOne_37 : decode cX0_coefficientAroundOne 37 = .ok (.aload_n 0, 1) := by decide +kernel
theorem dX0_coefficientAroundOne_38 : decode cX0_coefficientAroundOne 38 = .ok (.getfield 15, 3) := by decide +kernel
theorem dX0_coefficientAroundOne_41 : decode cX0_coefficientAroundOne 41 = .ok (.iload_n 3, 1) := by decide +kernel
theorem dX0_coefficientAroundOne_42 : decode cX0_coefficientAroundOne 42 = .ok (.iconst 1, 1) := by decide +kernel
theorem dX0_coefficientAroundOne_43 : decode cX0_coefficientAroundOne 43 = .ok (.iadd, 1) := by decide +kernel
theorem dX0_coefficientAroundOne_44 : decode cX0_coefficientAroundOne 44 = .ok (.laload, 1) := by decide +kernel
theorem dX0_coefficientAroundOne_45 : decode cX0_coefficientAroundOne 45 = .ok (.ladd, 1) := by decide +kernel
theorem dX0_coefficientAroundOne_46 : decode cX0_coefficientAroundOne 46 = .ok (.lastore, 1) := by decide +kernel
theorem dX0_coefficientAroundOne_47 : decode cX0_coefficientAroundOne 47 = .ok (.iinc 3 (-1), 3) := by decide +kernel
theorem dX0_coefficientAroundOne_50 : decode cX0_coefficientAroundOne 50 = .ok (.goto (-25), 3) := by decide +kernel
theorem dX0_coefficientAroundOne_53 : decode cX0_coefficientAroundOne 53 = .ok (.iinc 2 1, 3) := by decide +kernel
theorem dX0_coefficientAroundOne_56 : decode cX0_coefficientAroundOne 56 = .ok (.goto (-39), 3) := by decide +kernel
theorem dX0_coefficientAroundOne_59 : decode cX0_coefficientAroundOne 59 = .ok (.aload_n 0, 1) := by decide +kernel
theorem dX0_coefficientAroundOne_60 : decode cX0_coefficientAroundOne 60 = .ok (.getfield 15, 3) := by decide +kernel
theorem dX0_coefficientAroundOne_63 : decode cX0_coefficientAroundOne 63 = .ok (.iload_n 1, 1) := by decide +kernel
theorem dX0_coefficientAroundOne_64 : decode cX0_coefficientAroundOne 64 = .ok (.laload, 1) := by decide +kernel
theorem dX0_coefficientAroundOne_65 : decode cX0_coefficientAroundOne 65 = .ok (.lreturn, 1) := by decide +kernel
theorem dX0_highestPower_0 : decode cX0_highestPower 0 = .ok (.bipush 18, 2) := by decide +kernel
theorem dX0_highestPower_2 : decode cX0_highestPower 2 = .ok (.istore_n 1, 1) := by decide +kernel
theorem dX0_highestPower_3 : decode cX0_highestPower 3 = .ok (.iload_n 1, 1) := by decide +kernel
theorem dX0_highestPower_4 : decode cX0_highestPower 4 = .ok (.ifCond .le 22, 3) := by decide +kernel
theorem dX0_highestPower_7 : decode cX0_highestPower 7 = .ok (.aload_n 0, 1) := by decide +kernel
theorem dX0_highestPower_8 : decode cX0_highestPower 8 = .ok (.getfield 9, 3) := by decide +kernel
theorem dX0_highestPower_11 : decode cX0_highestPower 11 = .ok (.iload_n 1, 1) := by decide +kernel
theorem dX0_highestPower_12 : decode cX0_highestPower 12 = .ok (.laload, 1) := by decide +kernel
theorem dX0_highestPower_13 : decode cX0_highestPower 13 = .ok (.lconst 0, 1) := by decide +kernel
theorem dX0_highestPower_14 : decode cX0_highestPower 14 = .ok (.lcmp, 1) := by decide +kernel
theorem dX0_highestPower_15 : decode cX0_highestPower 15 = .ok (.ifCond .eq 5, 3) := by decide +kernel
theorem dX0_highestPower_18 : decode cX0_highestPower 18 = .ok (.iload_n 1, 1) := by decide +kernel
theorem dX0_highestPower_19 : decode cX0_highestPower 19 = .ok (.ireturn, 1) := by decide +kernel
theorem dX0_highestPower_20 : decode cX0_highestPower 20 = .ok (.iinc 1 (-1), 3) := by decide +kernel
theorem dX0_highestPower_23 : decode cX0_highestPower 23 = .ok (.goto (-20), 3) := by decide +kernel
theorem dX0_highestPower_26 : decode cX0_highestPower 26 = .ok (.iconst 0, 1) := by decide +kernel
theorem dX0_highestPower_27 : decode cX0_highestPower 27 = .ok (.ireturn, 1) := by decide +kernel
