theorem dX4_init_0 : decode cX4_init 0 = .ok (.aload_n 0, 1) := by decide +kernel
theorem dX4_init_1 : decode cX4_init 1 = .ok (.invokespecial 3, 3) := by decide +kernel
theorem dX4_init_4 : decode cX4_init 4 = .ok (.aload_n 0, 1) := by decide +kernel
theorem dX4_init_5 : decode cX4_init 5 = .ok (.iconst 0, 1) := by decide +kernel
theorem dX4_init_6 : decode cX4_init 6 = .ok (.putfield 9, 3) := by decide +kernel
theorem dX4_init_9 : decode cX4_init 9 = .ok (.aload_n 0, 1) := by decide +kernel
theorem dX4_init_10 : decode cX4_init 10 = .ok (.bipush 8, 2) := by decide +kernel
theorem dX4_init_12 : decode cX4_init 12 = .ok (.anewarray 15, 3) := by decide +kernel
theorem dX4_init_15 : decode cX4_init 15 = .ok (.putfield 17, 3) := by decide +kernel
theorem dX4_init_18 : decode cX4_init 18 = .ok (.iconst 0, 1) := by decide +kernel
theorem dX4_init_19 : decode cX4_init 19 = .ok (.istore_n 1, 1) := by decide +kernel
theorem dX4_init_20 : decode cX4_init 20 = .ok (.iload_n 1, 1) := by decide +kernel
theorem dX4_init_21 : decode cX4_init 21 = .ok (.bipush 8, 2) := by decide +kernel
theorem dX4_init_23 : decode cX4_init 23 = .ok (.if_icmp .ge 22, 3) := by decide +kernel
theorem dX4_init_26 : decode cX4_init 26 = .ok (.aload_n 0, 1) := by decide +kernel
theorem dX4_init_27 : decode cX4_init 27 = .ok (.getfield 17, 3) := by decide +kernel
theorem dX4_init_30 : decode cX4_init 30 = .ok (.iload_n 1, 1) := by decide +kernel
theorem dX4_init_31 : decode cX4_init 31 = .ok (.new 15, 3) := by decide +kernel
theorem dX4_init_34 : decode cX4_init 34 = .ok (.dup, 1) := by decide +kernel
theorem dX4_init_35 : decode cX4_init 35 = .ok (.invokespecial 21, 3) := by decide +kernel
theorem dX4_init_38 : decode cX4_init 38 = .ok (.aastore, 1) := by decide +kernel
theorem dX4_init_39 : decode cX4_init 39 = .ok (.iinc 1 1, 3) := by decide +kernel
theorem dX4_init_42 : decode cX4_init 42 = .ok (.goto (-22), 3) := by decide +kernel
theorem dX4_init_45 : decode cX4_init 45 = .ok (.return_, 1) := by decide +kernel
theorem dX4_save_0 : decode cX4_save 0 = .ok (.aload_n 0, 1) := by decide +kernel
theorem dX4_save_1 : decode cX4_save 1 = .ok (.getfield 9, 3) := by decide +kernel
theorem dX4_save_4 : decode cX4_save 4 = .ok (.bipush 8, 2) := by decide +kernel
theorem dX4_save_6 : decode cX4_save 6 = .ok (.if_icmp .lt 7, 3) := by decide +kernel
theorem dX4_save_9 : decode cX4_save 9 = .ok (.aload_n 0, 1) := by decide +kernel
theorem dX4_save_10 : decode cX4_save 10 = .ok (.invokevirtual 22, 3) := by decide +kernel
theorem dX4_save_13 : decode cX4_save 13 = .ok (.aload_n 0, 1) := by decide +kernel
theorem dX4_save_14 : decode cX4_save 14 = .ok (.getfield 17, 3) := by decide +kernel
theorem dX4_save_17 : decode cX4_save 17 = .ok (.aload_n 0, 1) := by decide +kernel
theorem dX4_save_18 : decode cX4_save 18 = .ok (.getfield 9, 3) := by decide +kernel
theorem dX4_save_21 : decode cX4_save 21 = .ok (.aaload, 1) := by decide +kernel
theorem dX4_save_22 : decode cX4_save 22 = .ok (.aload_n 1, 1) := by decide +kernel
theorem dX4_save_23 : decode cX4_save 23 = .ok (.invokevirtual 25, 3) := by decide +kernel
theorem dX4_save_26 : decode cX4_save 26 = .ok (.aload_n 0, 1) := by decide +kernel
theorem dX4_save_27 : decode cX4_save 27 = .ok (.dup, 1) := by decide +kernel
theorem dX4_save_28 : decode cX4_save 28 = .ok (.getfield 9, 3) := by decide +kernel
theorem dX4_save_31 : decode cX4_save 31 = .ok (.iconst 1, 1) := by decide +kernel
theorem dX4_save_32 : decode cX4_save 32 = .ok (.iadd, 1) := by decide +kernel
theorem dX4_save_33 : decode cX4_save 33 = .ok (.putfield 9, 3) := by decide +kernel
theorem dX4_save_36 : decode cX4_save 36 = .ok (.return_, 1) := by decide +kernel
theorem dX4_restore_0 : decode cX4_restore 0 = .ok (.aload_n 0, 1) := by decide +kernel
theorem dX4_restore_1 : decode cX4_restore 1 = .ok (.getfield 9, 3) := by decide +kernel
theorem dX4_restore_4 : decode cX4_restore 4 = .ok (.ifCond .le 26, 3) := by decide +kernel
theorem dX4_restore_7 : decode cX4_restore 7 = .ok (.aload_n 0, 1) := by decide +kernel
theorem dX4_restore_8 : decode cX4_restore 8 = .ok (.dup, 1) := by decide +kernel
theorem dX4_restore_9 : decode cX4_restore 9 = .ok (.getfield 9, 3) := by decide +kernel
theorem dX4_restore_12 : decode cX4_restore 12 = .ok (.iconst 1, 1) := by decide +kernel
theorem dX4_restore_13 : decode cX4_restore 13 = .ok (.isub, 1) := by decide +kernel
theorem dX4_restore_14 : decode cX4_restore 14 = .ok (.putfield 9, 3) := by decide +kernel
theorem dX4_restore_17 : decode cX4_restore 17 = .ok (.aload_n 1, 1) := by decide +kernel
theorem dX4_restore_18 : decode cX4_restore 18 = .ok (.aload_n 0, 1) := by decide +kernel
theorem dX4_restore_19 : decode cX4_restore 19 = .ok (.getfield 17, 3) := by decide +kernel
theorem dX4_restore_22 : decode cX4_restore 22 = .ok (.aload_n 0, 1) := by decide +kernel
theorem dX4_restore_23 : decode cX4_restore 23 = .ok (.getfield 9, 3) := by decide +kernel
theorem dX4_restore_26 : decode cX4_restore 26 = .ok (.aaload, 1) := by decide +kernel
theorem dX4_restore_27 : decode cX4_restore 27 = .ok (.invokevirtual 25, 3) := by decide +kernel
theorem dX4_restore_30 : decode cX4_restore 30 = .ok (.return_, 1) := by decide +kernel
theorem dX4_discardOldest_0 : decode cX4_discardOldest 0 = .ok (.aload_n 0, 1) := by decide +kernel
theorem dX4_discardOldest_1 : decode cX4_discardOldest 1 = .ok (.getfield 17, 3) := by decide +kernel
theorem dX4_discardOldest_4 : decode cX4_discardOldest 4 = .ok (.iconst 0, 1) := by decide +kernel
theorem dX4_discardOldest_5 : decode cX4_discardOldest 5 = .ok (.aaload, 1) := by decide +kernel
theorem dX4_discardOldest_6 : decode cX4_discardOldest 6 = .ok (.astore_n 1, 1) := by decide +kernel
theorem dX4_discardOldest_7 : decode cX4_discardOldest 7 = .ok (.iconst 1, 1) := by decide +kernel
theorem dX4_discardOldest_8 : decode cX4_discardOldest 8 = .ok (.istore_n 2, 1) := by decide +kernel
theorem dX4_discardOldest_9 : decode cX4_discardOldest 9 = .ok (.iload_n 2, 1) := by decide +kernel
theorem dX4_discardOldest_10 : decode cX4_discardOldest 10 = .ok (.bipush 8, 2) := by decide +kernel
theorem dX4_discardOldest_12 : decode cX4_discardOldest 12 = .ok (.if_icmp .ge 23, 3) := by decide +kernel
theorem dX4_discardOldest_15 : decode cX4_discardOldest 15 = .ok (.aload_n 0, 1) := by decide +kernel
theorem dX4_discardOldest_16 : decode cX4_discardOldest 16 = .ok (.getfield 17, 3) := by decide +kernel
theorem dX4_discardOldest_19 : decode cX4_discardOldest 19 = .ok (.iload_n 2, 1) := by decide +kernel
theorem dX4_discardOldest_20 : decode cX4_discardOldest 20 = .ok (.iconst 1, 1) := by decide +kernel
theorem dX4_discardOldest_21 : decode cX4_discardOldest 21 = .ok (.isub, 1) := by decide +kernel
theorem dX4_discardOldest_22 : decode cX4_discardOldest 22 = .ok (.aload_n 0, 1) := by decide +kernel
theorem dX4_discardOldest_23 : decode cX4_discardOldest 23 = .ok (.getfield 17, 3) := by decide +kernel
theorem dX4_discardOldest_26 : decode cX4_discardOldest 26 = .ok (.iload_n 2, 1) := by decide +kernel
theorem dX4_discardOldest_27 : decode cX4_discardOldest 27 = .ok (.aaload, 1) := by decide +kernel
theorem dX4_discardOldest_28 : decode cX4_discardOldest 28 = .ok (.aastore, 1) := by decide +kernel
theorem dX4_discardOldest_29 : decode cX4_discardOldest 29 = .ok (.iinc 2 1, 3) := by decide +kernel
theorem dX4_discardOldest_32 : decode cX4_discardOldest 32 = .ok (.goto (-23), 3) := by decide +kernel
theorem dX4_discardOldest_35 : decode cX4_discardOldest 35 = .ok (.aload_n 0, 1) := by decide +kernel
theorem dX4_discardOldest_36 : decode cX4_discardOldest 36 = .ok (.getfield 17, 3) := by decide +kernel
theorem dX4_discardOldest_39 : decode cX4_discardOldest 39 = .ok (.bipush 7, 2) := by decide +kernel
theorem dX4_discardOldest_41 : decode cX4_discardOldest 41 = .ok (.aload_n 1, 1) := by decide +kernel
theorem dX4_discardOldest_42 : decode cX4_discardOldest 42 = .ok (.aastore, 1) := by decide +kernel
theorem dX4_discardOldest_43 : decode cX4_discardOldest 43 = .ok (.aload_n 0, 1) := by decide +kernel
theorem dX4_discardOldest_44 : decode cX4_discardOldest 44 = .ok (.bipush 7, 2) := by decide +kernel
theorem dX4_discardOldest_46 : decode cX4_discardOldest 46 = .ok (.putfield 9, 3) := by decide +kernel
theorem dX4_discardOldest_49 : decode cX4_discardOldest 49 = .ok (.return_, 1) := by decide +kernel
