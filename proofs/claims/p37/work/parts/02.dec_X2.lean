theorem dX2_init_0 : decode cX2_init 0 = .ok (.aload_n 0, 1) := by decide +kernel
theorem dX2_init_1 : decode cX2_init 1 = .ok (.invokespecial 3, 3) := by decide +kernel
theorem dX2_init_4 : decode cX2_init 4 = .ok (.aload_n 0, 1) := by decide +kernel
theorem dX2_init_5 : decode cX2_init 5 = .ok (.iconst 4, 1) := by decide +kernel
theorem dX2_init_6 : decode cX2_init 6 = .ok (.putfield 9, 3) := by decide +kernel
theorem dX2_init_9 : decode cX2_init 9 = .ok (.aload_n 0, 1) := by decide +kernel
theorem dX2_init_10 : decode cX2_init 10 = .ok (.iconst 0, 1) := by decide +kernel
theorem dX2_init_11 : decode cX2_init 11 = .ok (.putfield 15, 3) := by decide +kernel
theorem dX2_init_14 : decode cX2_init 14 = .ok (.aload_n 0, 1) := by decide +kernel
theorem dX2_init_15 : decode cX2_init 15 = .ok (.bipush 9, 2) := by decide +kernel
theorem dX2_init_17 : decode cX2_init 17 = .ok (.newarray .int, 2) := by decide +kernel
theorem dX2_init_19 : decode cX2_init 19 = .ok (.putfield 18, 3) := by decide +kernel
theorem dX2_init_22 : decode cX2_init 22 = .ok (.aload_n 0, 1) := by decide +kernel
theorem dX2_init_23 : decode cX2_init 23 = .ok (.bipush 9, 2) := by decide +kernel
theorem dX2_init_25 : decode cX2_init 25 = .ok (.newarray .int, 2) := by decide +kernel
theorem dX2_init_27 : decode cX2_init 27 = .ok (.putfield 22, 3) := by decide +kernel
theorem dX2_init_30 : decode cX2_init 30 = .ok (.aload_n 0, 1) := by decide +kernel
theorem dX2_init_31 : decode cX2_init 31 = .ok (.bipush 9, 2) := by decide +kernel
theorem dX2_init_33 : decode cX2_init 33 = .ok (.newarray .int, 2) := by decide +kernel
theorem dX2_init_35 : decode cX2_init 35 = .ok (.putfield 25, 3) := by decide +kernel
theorem dX2_init_38 : decode cX2_init 38 = .ok (.return_, 1) := by decide +kernel
theorem dX2_makeEmpty_0 : decode cX2_makeEmpty 0 = .ok (.aload_n 0, 1) := by decide +kernel
theorem dX2_makeEmpty_1 : decode cX2_makeEmpty 1 = .ok (.iload_n 1, 1) := by decide +kernel
theorem dX2_makeEmpty_2 : decode cX2_makeEmpty 2 = .ok (.putfield 9, 3) := by decide +kernel
theorem dX2_makeEmpty_5 : decode cX2_makeEmpty 5 = .ok (.aload_n 0, 1) := by decide +kernel
theorem dX2_makeEmpty_6 : decode cX2_makeEmpty 6 = .ok (.iconst 0, 1) := by decide +kernel
theorem dX2_makeEmpty_7 : decode cX2_makeEmpty 7 = .ok (.putfield 15, 3) := by decide +kernel
theorem dX2_makeEmpty_10 : decode cX2_makeEmpty 10 = .ok (.return_, 1) := by decide +kernel
theorem dX2_copyFrom_0 : decode cX2_copyFrom 0 = .ok (.aload_n 0, 1) := by decide +kernel
theorem dX2_copyFrom_1 : decode cX2_copyFrom 1 = .ok (.aload_n 1, 1) := by decide +kernel
theorem dX2_copyFrom_2 : decode cX2_copyFrom 2 = .ok (.getfield 9, 3) := by decide +kernel
theorem dX2_copyFrom_5 : decode cX2_copyFrom 5 = .ok (.putfield 9, 3) := by decide +kernel
theorem dX2_copyFrom_8 : decode cX2_copyFrom 8 = .ok (.aload_n 0, 1) := by decide +kernel
theorem dX2_copyFrom_9 : decode cX2_copyFrom 9 = .ok (.aload_n 1, 1) := by decide +kernel
theorem dX2_copyFrom_10 : decode cX2_copyFrom 10 = .ok (.getfield 15, 3) := by decide +kernel
theorem dX2_copyFrom_13 : decode cX2_copyFrom 13 = .ok (.putfield 15, 3) := by decide +kernel
theorem dX2_copyFrom_16 : decode cX2_copyFrom 16 = .ok (.iconst 0, 1) := by decide +kernel
theorem dX2_copyFrom_17 : decode cX2_copyFrom 17 = .ok (.istore_n 2, 1) := by decide +kernel
theorem dX2_copyFrom_18 : decode cX2_copyFrom 18 = .ok (.iload_n 2, 1) := by decide +kernel
theorem dX2_copyFrom_19 : decode cX2_copyFrom 19 = .ok (.bipush 9, 2) := by decide +kernel
theorem dX2_copyFrom_21 : decode cX2_copyFrom 21 = .ok (.if_icmp .ge 45, 3) := by decide +kernel
theorem dX2_copyFrom_24 : decode cX2_copyFrom 24 = .ok (.aload_n 0, 1) := by decide +kernel
theorem dX2_copyFrom_25 : decode cX2_copyFrom 25 = .ok (.getfield 18, 3) := by decide +kernel
theorem dX2_copyFrom_28 : decode cX2_copyFrom 28 = .ok (.iload_n 2, 1) := by decide +kernel
theorem dX2_copyFrom_29 : decode cX2_copyFrom 29 = .ok (.aload_n 1, 1) := by decide +kernel
theorem dX2_copyFrom_30 : decode cX2_copyFrom 30 = .ok (.getfield 18, 3) := by decide +kernel
theorem dX2_copyFrom_33 : decode cX2_copyFrom 33 = .ok (.iload_n 2, 1) := by decide +kernel
theorem dX2_copyFrom_34 : decode cX2_copyFrom 34 = .ok (.iaload, 1) := by decide +kernel
theorem dX2_copyFrom_35 : decode cX2_copyFrom 35 = .ok (.iastore, 1) := by decide +kernel
theorem dX2_copyFrom_36 : decode cX2_copyFrom 36 = .ok (.aload_n 0, 1) := by decide +kernel
theorem dX2_copyFrom_37 : decode cX2_copyFrom 37 = .ok (.getfield 22, 3) := by decide +kernel
theorem dX2_copyFrom_40 : decode cX2_copyFrom 40 = .ok (.iload_n 2, 1) := by decide +kernel
theorem dX2_copyFrom_41 : decode cX2_copyFrom 41 = .ok (.aload_n 1, 1) := by decide +kernel
theorem dX2_copyFrom_42 : decode cX2_copyFrom 42 = .ok (.getfield 22, 3) := by decide +kernel
theorem dX2_copyFrom_45 : decode cX2_copyFrom 45 = .ok (.iload_n 2, 1) := by decide +kernel
theorem dX2_copyFrom_46 : decode cX2_copyFrom 46 = .ok (.iaload, 1) := by decide +kernel
theorem dX2_copyFrom_47 : decode cX2_copyFrom 47 = .ok (.iastore, 1) := by decide +kernel
theorem dX2_copyFrom_48 : decode cX2_copyFrom 48 = .ok (.aload_n 0, 1) := by decide +kernel
theorem dX2_copyFrom_49 : decode cX2_copyFrom 49 = .ok (.getfield 25, 3) := by decide +kernel
theorem dX2_copyFrom_52 : decode cX2_copyFrom 52 = .ok (.iload_n 2, 1) := by decide +kernel
theorem dX2_copyFrom_53 : decode cX2_copyFrom 53 = .ok (.aload_n 1, 1) := by decide +kernel
theorem dX2_copyFrom_54 : decode cX2_copyFrom 54 = .ok (.getfield 25, 3) := by decide +kernel
theorem dX2_copyFrom_57 : decode cX2_copyFrom 57 = .ok (.iload_n 2, 1) := by decide +kernel
theorem dX2_copyFrom_58 : decode cX2_copyFrom 58 = .ok (.iaload, 1) := by decide +kernel
theorem dX2_copyFrom_59 : decode cX2_copyFrom 59 = .ok (.iastore, 1) := by decide +kernel
theorem dX2_copyFrom_60 : decode cX2_copyFrom 60 = .ok (.iinc 2 1, 3) := by decide +kernel
theorem dX2_copyFrom_63 : decode cX2_copyFrom 63 = .ok (.goto (-45), 3) := by decide +kernel
theorem dX2_copyFrom_66 : decode cX2_copyFrom 66 = .ok (.return_, 1) := by decide +kernel
theorem dX2_isFull_0 : decode cX2_isFull 0 = .ok (.aload_n 0, 1) := by decide +kernel
theorem dX2_isFull_1 : decode cX2_isFull 1 = .ok (.getfield 15, 3) := by decide +kernel
theorem dX2_isFull_4 : decode cX2_isFull 4 = .ok (.bipush 9, 2) := by decide +kernel
theorem dX2_isFull_6 : decode cX2_isFull 6 = .ok (.if_icmp .lt 7, 3) := by decide +kernel
theorem dX2_isFull_9 : decode cX2_isFull 9 = .ok (.iconst 1, 1) := by decide +kernel
theorem dX2_isFull_10 : decode cX2_isFull 10 = .ok (.goto 4, 3) := by decide +kernel
theorem dX2_isFull_13 : decode cX2_isFull 13 = .ok (.iconst 0, 1) := by decide +kernel
theorem dX2_isFull_14 : decode cX2_isFull 14 = .ok (.ireturn, 1) := by decide +kernel
theorem dX2_hasVertex_0 : decode cX2_hasVertex 0 = .ok (.iload_n 1, 1) := by decide +kernel
theorem dX2_hasVertex_1 : decode cX2_hasVertex 1 = .ok (.ifCond .lt 15, 3) := by decide +kernel
theorem dX2_hasVertex_4 : decode cX2_hasVertex 4 = .ok (.iload_n 1, 1) := by decide +kernel
theorem dX2_hasVertex_5 : decode cX2_hasVertex 5 = .ok (.aload_n 0, 1) := by decide +kernel
theorem dX2_hasVertex_6 : decode cX2_hasVertex 6 = .ok (.getfield 9, 3) := by decide +kernel
theorem dX2_hasVertex_9 : decode cX2_hasVertex 9 = .ok (.if_icmp .ge 7, 3) := by decide +kernel
theorem dX2_hasVertex_12 : decode cX2_hasVertex 12 = .ok (.iconst 1, 1) := by decide +kernel
theorem dX2_hasVertex_13 : decode cX2_hasVertex 13 = .ok (.goto 4, 3) := by decide +kernel
theorem dX2_hasVertex_16 : decode cX2_hasVertex 16 = .ok (.iconst 0, 1) := by decide +kernel
theorem dX2_hasVertex_17 : decode cX2_hasVertex 17 = .ok (.ireturn, 1) := by decide +kernel
theorem dX2_hasEdge_0 : decode cX2_hasEdge 0 = .ok (.iload_n 1, 1) := by decide +kernel
theorem dX2_hasEdge_1 : decode cX2_hasEdge 1 = .ok (.ifCond .lt 15, 3) := by decide +kernel
theorem dX2_hasEdge_4 : decode cX2_hasEdge 4 = .ok (.iload_n 1, 1) := by decide +kernel
theorem dX2_hasEdge_5 : decode cX2_hasEdge 5 = .ok (.aload_n 0, 1) := by decide +kernel
theorem dX2_hasEdge_6 : decode cX2_hasEdge 6 = .ok (.getfield 15, 3) := by decide +kernel
theorem dX2_hasEdge_9 : decode cX2_hasEdge 9 = .ok (.if_icmp .ge 7, 3) := by decide +kernel
theorem dX2_hasEdge_12 : decode cX2_hasEdge 12 = .ok (.iconst 1, 1) := by decide +kernel
theorem dX2_hasEdge_13 : decode cX2_hasEdge 13 = .ok (.goto 4, 3) := by decide +kernel
theorem dX2_hasEdge_16 : decode cX2_hasEdge 16 = .ok (.iconst 0, 1) := by decide +kernel
theorem dX2_hasEdge_17 : decode cX2_hasEdge 17 = .ok (.ireturn, 1) := by decide +kernel
theorem dX2_hasDirected_0 : decode cX2_hasDirected 0 = .ok (.iload_n 1, 1) := by decide +kernel
theorem dX2_hasDirected_1 : decode cX2_hasDirected 1 = .ok (.ifCond .lt 17, 3) := by decide +kernel
theorem dX2_hasDirected_4 : decode cX2_hasDirected 4 = .ok (.iload_n 1, 1) := by decide +kernel
theorem dX2_hasDirected_5 : decode cX2_hasDirected 5 = .ok (.iconst 2, 1) := by decide +kernel
theorem dX2_hasDirected_6 : decode cX2_hasDirected 6 = .ok (.aload_n 0, 1) := by decide +kernel
theorem dX2_hasDirected_7 : decode cX2_hasDirected 7 = .ok (.getfield 15, 3) := by decide +kernel
theorem dX2_hasDirected_10 : decode cX2_hasDirected 10 = .ok (.imul, 1) := by decide +kernel
theorem dX2_hasDirected_11 : decode cX2_hasDirected 11 = .ok (.if_icmp .ge 7, 3) := by decide +kernel
theorem dX2_hasDirected_14 : decode cX2_hasDirected 14 = .ok (.iconst 1, 1) := by decide +kernel
theorem dX2_hasDirected_15 : decode cX2_hasDirected 15 = .ok (.goto 4, 3) := by decide +kernel
theorem dX2_hasDirected_18 : decode cX2_hasDirected 18 = .ok (.iconst 0, 1) := by decide +kernel
theorem dX2_hasDirected_19 : decode cX2_hasDirected 19 = .ok (.ireturn, 1) := by decide +kernel
theorem dX2_append_0 : decode cX2_append 0 = .ok (.aload_n 0, 1) := by decide +kernel
theorem dX2_append_1 : decode cX2_append 1 = .ok (.invokevirtual 28, 3) := by decide +kernel
theorem dX2_append_4 : decode cX2_append 4 = .ok (.ifCond .eq 4, 3) := by decide +kernel
theorem dX2_append_7 : decode cX2_append 7 = .ok (.return_, 1) := by decide +kernel
theorem dX2_append_8 : decode cX2_append 8 = .ok (.aload_n 0, 1) := by decide +kernel
theorem dX2_append_9 : decode cX2_append 9 = .ok (.getfield 18, 3) := by decide +kernel
theorem dX2_append_12 : decode cX2_append 12 = .ok (.aload_n 0, 1) := by decide +kernel
theorem dX2_append_13 : decode cX2_append 13 = .ok (.getfield 15, 3) := by decide +kernel
theorem dX2_append_16 : decode cX2_append 16 = .ok (.iload_n 1, 1) := by decide +kernel
theorem dX2_append_17 : decode cX2_append 17 = .ok (.iastore, 1) := by decide +kernel
theorem dX2_append_18 : decode cX2_append 18 = .ok (.aload_n 0, 1) := by decide +kernel
theorem dX2_append_19 : decode cX2_append 19 = .ok (.getfield 22, 3) := by decide +kernel
theorem dX2_append_22 : decode cX2_append 22 = .ok (.aload_n 0, 1) := by decide +kernel
theorem dX2_append_23 : decode cX2_append 23 = .ok (.getfield 15, 3) := by decide +kernel
theorem dX2_append_26 : decode cX2_append 26 = .ok (.iload_n 2, 1) := by decide +kernel
theorem dX2_append_27 : decode cX2_append 27 = .ok (.iastore, 1) := by decide +kernel
theorem dX2_append_28 : decode cX2_append 28 = .ok (.aload_n 0, 1) := by decide +kernel
theorem dX2_append_29 : decode cX2_append 29 = .ok (.getfield 25, 3) := by decide +kernel
theorem dX2_append_32 : decode cX2_append 32 = .ok (.aload_n 0, 1) := by decide +kernel
theorem dX2_append_33 : decode cX2_append 33 = .ok (.getfield 15, 3) := by decide +kernel
theorem dX2_append_36 : decode cX2_append 36 = .ok (.iload_n 3, 1) := by decide +kernel
theorem dX2_append_37 : decode cX2_append 37 = .ok (.iastore, 1) := by decide +kernel
theorem dX2_append_38 : decode cX2_append 38 = .ok (.aload_n 0, 1) := by decide +kernel
theorem dX2_append_39 : decode cX2_append 39 = .ok (.dup, 1) := by decide +kernel
theorem dX2_append_40 : decode cX2_append 40 = .ok (.getfield 15, 3) := by decide +kernel
theorem dX2_append_43 : decode cX2_append 43 = .ok (.iconst 1, 1) := by decide +kernel
theorem dX2_append_44 : decode cX2_append 44 = .ok (.iadd, 1) := by decide +kernel
theorem dX2_append_45 : decode cX2_append 45 = .ok (.putfield 15, 3) := by decide +kernel
theorem dX2_append_48 : decode cX2_append 48 = .ok (.return_, 1) := by decide +kernel
theorem dX2_delete_0 : decode cX2_delete 0 = .ok (.iload_n 1, 1) := by decide +kernel
theorem dX2_delete_1 : decode cX2_delete 1 = .ok (.istore_n 2, 1) := by decide +kernel
theorem dX2_delete_2 : decode cX2_delete 2 = .ok (.iload_n 2, 1) := by decide +kernel
theorem dX2_delete_3 : decode cX2_delete 3 = .ok (.aload_n 0, 1) := by decide +kernel
theorem dX2_delete_4 : decode cX2_delete 4 = .ok (.getfield 15, 3) := by decide +kernel
theorem dX2_delete_7 : decode cX2_delete 7 = .ok (.iconst 1, 1) := by decide +kernel
theorem dX2_delete_8 : decode cX2_delete 8 = .ok (.isub, 1) := by decide +kernel
theorem dX2_delete_9 : decode cX2_delete 9 = .ok (.if_icmp .ge 51, 3) := by decide +kernel
theorem dX2_delete_12 : decode cX2_delete 12 = .ok (.aload_n 0, 1) := by decide +kernel
theorem dX2_delete_13 : decode cX2_delete 13 = .ok (.getfield 18, 3) := by decide +kernel
theorem dX2_delete_16 : decode cX2_delete 16 = .ok (.iload_n 2, 1) := by decide +kernel
theorem dX2_delete_17 : decode cX2_delete 17 = .ok (.aload_n 0, 1) := by decide +kernel
theorem dX2_delete_18 : decode cX2_delete 18 = .ok (.getfield 18, 3) := by decide +kernel
theorem dX2_delete_21 : decode cX2_delete 21 = .ok (.iload_n 2, 1) := by decide +kernel
theorem dX2_delete_22 : decode cX2_delete 22 = .ok (.iconst 1, 1) := by decide +kernel
theorem dX2_delete_23 : decode cX2_delete 23 = .ok (.iadd, 1) := by decide +kernel
theorem dX2_delete_24 : decode cX2_delete 24 = .ok (.iaload, 1) := by decide +kernel
theorem dX2_delete_25 : decode cX2_delete 25 = .ok (.iastore, 1) := by decide +kernel
theorem dX2_delete_26 : decode cX2_delete 26 = .ok (.aload_n 0, 1) := by decide +kernel
theorem dX2_delete_27 : decode cX2_delete 27 = .ok (.getfield 22, 3) := by decide +kernel
theorem dX2_delete_30 : decode cX2_delete 30 = .ok (.iload_n 2, 1) := by decide +kernel
theorem dX2_delete_31 : decode cX2_delete 31 = .ok (.aload_n 0, 1) := by decide +kernel
theorem dX2_delete_32 : decode cX2_delete 32 = .ok (.getfield 22, 3) := by decide +kernel
theorem dX2_delete_35 : decode cX2_delete 35 = .ok (.iload_n 2, 1) := by decide +kernel
theorem dX2_delete_36 : decode cX2_delete 36 = .ok (.iconst 1, 1) := by decide +kernel
theorem dX2_delete_37 : decode cX2_delete 37 = .ok (.iadd, 1) := by decide +kernel
theorem dX2_delete_38 : decode cX2_delete 38 = .ok (.iaload, 1) := by decide +kernel
theorem dX2_delete_39 : decode cX2_delete 39 = .ok (.iastore, 1) := by decide +kernel
theorem dX2_delete_40 : decode cX2_delete 40 = .ok (.aload_n 0, 1) := by decide +kernel
theorem dX2_delete_41 : decode cX2_delete 41 = .ok (.getfield 25, 3) := by decide +kernel
theorem dX2_delete_44 : decode cX2_delete 44 = .ok (.iload_n 2, 1) := by decide +kernel
theorem dX2_delete_45 : decode cX2_delete 45 = .ok (.aload_n 0, 1) := by decide +kernel
theorem dX2_delete_46 : decode cX2_delete 46 = .ok (.getfield 25, 3) := by decide +kernel
theorem dX2_delete_49 : decode cX2_delete 49 = .ok (.iload_n 2, 1) := by decide +kernel
theorem dX2_delete_50 : decode cX2_delete 50 = .ok (.iconst 1, 1) := by decide +kernel
theorem dX2_delete_51 : decode cX2_delete 51 = .ok (.iadd, 1) := by decide +kernel
theorem dX2_delete_52 : decode cX2_delete 52 = .ok (.iaload, 1) := by decide +kernel
theorem dX2_delete_53 : decode cX2_delete 53 = .ok (.iastore, 1) := by decide +kernel
theorem dX2_delete_54 : decode cX2_delete 54 = .ok (.iinc 2 1, 3) := by decide +kernel
theorem dX2_delete_57 : decode cX2_delete 57 = .ok (.goto (-55), 3) := by decide +kernel
theorem dX2_delete_60 : decode cX2_delete 60 = .ok (.aload_n 0, 1) := by decide +kernel
theorem dX2_delete_61 : decode cX2_delete 61 = .ok (.dup, 1) := by decide +kernel
theorem dX2_delete_62 : decode cX2_delete 62 = .ok (.getfield 15, 3) := by decide +kernel
theorem dX2_delete_65 : decode cX2_delete 65 = .ok (.iconst 1, 1) := by decide +kernel
theorem dX2_delete_66 : decode cX2_delete 66 = .ok (.isub, 1) := by decide +kernel
theorem dX2_delete_67 : decode cX2_delete 67 = .ok (.putfield 15, 3) := by decide +kernel
theorem dX2_delete_70 : decode cX2_delete 70 = .ok (.return_, 1) := by decide +kernel
theorem dX2_startOf_0 : decode cX2_startOf 0 = .ok (.iload_n 1, 1) := by decide +kernel
theorem dX2_startOf_1 : decode cX2_startOf 1 = .ok (.iconst 2, 1) := by decide +kernel
theorem dX2_startOf_2 : decode cX2_startOf 2 = .ok (.irem, 1) := by decide +kernel
theorem dX2_startOf_3 : decode cX2_startOf 3 = .ok (.ifCond .ne 14, 3) := by decide +kernel
theorem dX2_startOf_6 : decode cX2_startOf 6 = .ok (.aload_n 0, 1) := by decide +kernel
theorem dX2_startOf_7 : decode cX2_startOf 7 = .ok (.getfield 18, 3) := by decide +kernel
theorem dX2_startOf_10 : decode cX2_startOf 10 = .ok (.iload_n 1, 1) := by decide +kernel
theorem dX2_startOf_11 : decode cX2_startOf 11 = .ok (.iconst 2, 1) := by decide +kernel
theorem dX2_startOf_12 : decode cX2_startOf 12 = .ok (.idiv, 1) := by decide +kernel
theorem dX2_startOf_13 : decode cX2_startOf 13 = .ok (.iaload, 1) := by decide +kernel
theorem dX2_startOf_14 : decode cX2_startOf 14 = .ok (.goto 11, 3) := by decide +kernel
theorem dX2_startOf_17 : decode cX2_startOf 17 = .ok (.aload_n 0, 1) := by decide +kernel
theorem dX2_startOf_18 : decode cX2_startOf 18 = .ok (.getfield 22, 3) := by decide +kernel
theorem dX2_startOf_21 : decode cX2_startOf 21 = .ok (.iload_n 1, 1) := by decide +kernel
theorem dX2_startOf_22 : decode cX2_startOf 22 = .ok (.iconst 2, 1) := by decide +kernel
theorem dX2_startOf_23 : decode cX2_startOf 23 = .ok (.idiv, 1) := by decide +kernel
theorem dX2_startOf_24 : decode cX2_startOf 24 = .ok (.iaload, 1) := by decide +kernel
theorem dX2_startOf_25 : decode cX2_startOf 25 = .ok (.ireturn, 1) := by decide +kernel
theorem dX2_endOf_0 : decode cX2_endOf 0 = .ok (.iload_n 1, 1) := by decide +kernel
theorem dX2_endOf_1 : decode cX2_endOf 1 = .ok (.iconst 2, 1) := by decide +kernel
theorem dX2_endOf_2 : decode cX2_endOf 2 = .ok (.irem, 1) := by decide +kernel
theorem dX2_endOf_3 : decode cX2_endOf 3 = .ok (.ifCond .ne 14, 3) := by decide +kernel
theorem dX2_endOf_6 : decode cX2_endOf 6 = .ok (.aload_n 0, 1) := by decide +kernel
theorem dX2_endOf_7 : decode cX2_endOf 7 = .ok (.getfield 22, 3) := by decide +kernel
theorem dX2_endOf_10 : decode cX2_endOf 10 = .ok (.iload_n 1, 1) := by decide +kernel
theorem dX2_endOf_11 : decode cX2_endOf 11 = .ok (.iconst 2, 1) := by decide +kernel
theorem dX2_endOf_12 : decode cX2_endOf 12 = .ok (.idiv, 1) := by decide +kernel
theorem dX2_endOf_13 : decode cX2_endOf 13 = .ok (.iaload, 1) := by decide +kernel
theorem dX2_endOf_14 : decode cX2_endOf 14 = .ok (.goto 11, 3) := by decide +kernel
theorem dX2_endOf_17 : decode cX2_endOf 17 = .ok (.aload_n 0, 1) := by decide +kernel
theorem dX2_endOf_18 : decode cX2_endOf 18 = .ok (.getfield 18, 3) := by decide +kernel
theorem dX2_endOf_21 : decode cX2_endOf 21 = .ok (.iload_n 1, 1) := by decide +kernel
theorem dX2_endOf_22 : decode cX2_endOf 22 = .ok (.iconst 2, 1) := by decide +kernel
theorem dX2_endOf_23 : decode cX2_endOf 23 = .ok (.idiv, 1) := by decide +kernel
theorem dX2_endOf_24 : decode cX2_endOf 24 = .ok (.iaload, 1) := by decide +kernel
theorem dX2_endOf_25 : decode cX2_endOf 25 = .ok (.ireturn, 1) := by decide +kernel
theorem dX2_leadsOn_0 : decode cX2_leadsOn 0 = .ok (.aload_n 0, 1) := by decide +kernel
theorem dX2_leadsOn_1 : decode cX2_leadsOn 1 = .ok (.iload_n 1, 1) := by decide +kernel
theorem dX2_leadsOn_2 : decode cX2_leadsOn 2 = .ok (.invokevirtual 32, 3) := by decide +kernel
theorem dX2_leadsOn_5 : decode cX2_leadsOn 5 = .ok (.aload_n 0, 1) := by decide +kernel
theorem dX2_leadsOn_6 : decode cX2_leadsOn 6 = .ok (.iload_n 2, 1) := by decide +kernel
theorem dX2_leadsOn_7 : decode cX2_leadsOn 7 = .ok (.invokevirtual 36, 3) := by decide +kernel
theorem dX2_leadsOn_10 : decode cX2_leadsOn 10 = .ok (.if_icmp .ne 14, 3) := by decide +kernel
theorem dX2_leadsOn_13 : decode cX2_leadsOn 13 = .ok (.iload_n 2, 1) := by decide +kernel
theorem dX2_leadsOn_14 : decode cX2_leadsOn 14 = .ok (.iload_n 1, 1) := by decide +kernel
theorem dX2_leadsOn_15 : decode cX2_leadsOn 15 = .ok (.iconst 1, 1) := by decide +kernel
theorem dX2_leadsOn_16 : decode cX2_leadsOn 16 = .ok (.ixor, 1) := by decide +kernel
theorem dX2_leadsOn_17 : decode cX2_leadsOn 17 = .ok (.if_icmp .eq 7, 3) := by decide +kernel
theorem dX2_leadsOn_20 : decode cX2_leadsOn 20 = .ok (.iconst 1, 1) := by decide +kernel
theorem dX2_leadsOn_21 : decode cX2_leadsOn 21 = .ok (.goto 4, 3) := by decide +kernel
theorem dX2_leadsOn_24 : decode cX2_leadsOn 24 = .ok (.iconst 0, 1) := by decide +kernel
theorem dX2_leadsOn_25 : decode cX2_leadsOn 25 = .ok (.ireturn, 1) := by decide +kernel
theorem dX2_edgesAt_0 : decode cX2_edgesAt 0 = .ok (.iconst 0, 1) := by decide +kernel
theorem dX2_edgesAt_1 : decode cX2_edgesAt 1 = .ok (.istore_n 2, 1) := by decide +kernel
theorem dX2_edgesAt_2 : decode cX2_edgesAt 2 = .ok (.iconst 0, 1) := by decide +kernel
theorem dX2_edgesAt_3 : decode cX2_edgesAt 3 = .ok (.istore_n 3, 1) := by decide +kernel
theorem dX2_edgesAt_4 : decode cX2_edgesAt 4 = .ok (.iload_n 3, 1) := by decide +kernel
theorem dX2_edgesAt_5 : decode cX2_edgesAt 5 = .ok (.aload_n 0, 1) := by decide +kernel
theorem dX2_edgesAt_6 : decode cX2_edgesAt 6 = .ok (.getfield 15, 3) := by decide +kernel
theorem dX2_edgesAt_9 : decode cX2_edgesAt 9 = .ok (.if_icmp .ge 32, 3) := by decide +kernel
theorem dX2_edgesAt_12 : decode cX2_edgesAt 12 = .ok (.aload_n 0, 1) := by decide +kernel
theorem dX2_edgesAt_13 : decode cX2_edgesAt 13 = .ok (.getfield 18, 3) := by decide +kernel
theorem dX2_edgesAt_16 : decode cX2_edgesAt 16 = .ok (.iload_n 3, 1) := by decide +kernel
theorem dX2_edgesAt_17 : decode cX2_edgesAt 17 = .ok (.iaload, 1) := by decide +kernel
theorem dX2_edgesAt_18 : decode cX2_edgesAt 18 = .ok (.iload_n 1, 1) := by decide +kernel
theorem dX2_edgesAt_19 : decode cX2_edgesAt 19 = .ok (.if_icmp .eq 13, 3) := by decide +kernel
theorem dX2_edgesAt_22 : decode cX2_edgesAt 22 = .ok (.aload_n 0, 1) := by decide +kernel
theorem dX2_edgesAt_23 : decode cX2_edgesAt 23 = .ok (.getfield 22, 3) := by decide +kernel
theorem dX2_edgesAt_26 : decode cX2_edgesAt 26 = .ok (.iload_n 3, 1) := by decide +kernel
theorem dX2_edgesAt_27 : decode cX2_edgesAt 27 = .ok (.iaload, 1) := by decide +kernel
theorem dX2_edgesAt_28 : decode cX2_edgesAt 28 = .ok (.iload_n 1, 1) := by decide +kernel
theorem dX2_edgesAt_29 : decode cX2_edgesAt 29 = .ok (.if_icmp .ne 6, 3) := by decide +kernel
theorem dX2_edgesAt_32 : decode cX2_edgesAt 32 = .ok (.iinc 2 1, 3) := by decide +kernel
theorem dX2_edgesAt_35 : decode cX2_edgesAt 35 = .ok (.iinc 3 1, 3) := by decide +kernel
theorem dX2_edgesAt_38 : decode cX2_edgesAt 38 = .ok (.goto (-34), 3) := by decide +kernel
theorem dX2_edgesAt_41 : decode cX2_edgesAt 41 = .ok (.iload_n 2, 1) := by decide +kernel
theorem dX2_edgesAt_42 : decode cX2_edgesAt 42 = .ok (.ireturn, 1) := by decide +kernel
theorem dX2_edgesBetween_0 : decode cX2_edgesBetween 0 = .ok (.iconst 0, 1) := by decide +kernel
theorem dX2_edgesBetween_1 : decode cX2_edgesBetween 1 = .ok (.istore_n 3, 1) := by decide +kernel
theorem dX2_edgesBetween_2 : decode cX2_edgesBetween 2 = .ok (.iconst 0, 1) := by decide +kernel
theorem dX2_edgesBetween_3 : decode cX2_edgesBetween 3 = .ok (.istore 4, 2) := by decide +kernel
theorem dX2_edgesBetween_5 : decode cX2_edgesBetween 5 = .ok (.iload 4, 2) := by decide +kernel
theorem dX2_edgesBetween_7 : decode cX2_edgesBetween 7 = .ok (.aload_n 0, 1) := by decide +kernel
theorem dX2_edgesBetween_8 : decode cX2_edgesBetween 8 = .ok (.getfield 15, 3) := by decide +kernel
theorem dX2_edgesBetween_11 : decode cX2_edgesBetween 11 = .ok (.if_icmp .ge 80, 3) := by decide +kernel
theorem dX2_edgesBetween_14 : decode cX2_edgesBetween 14 = .ok (.aload_n 0, 1) := by decide +kernel
theorem dX2_edgesBetween_15 : decode cX2_edgesBetween 15 = .ok (.getfield 18, 3) := by decide +kernel
theorem dX2_edgesBetween_18 : decode cX2_edgesBetween 18 = .ok (.iload 4, 2) := by decide +kernel
theorem dX2_edgesBetween_20 : decode cX2_edgesBetween 20 = .ok (.iaload, 1) := by decide +kernel
theorem dX2_edgesBetween_21 : decode cX2_edgesBetween 21 = .ok (.iload_n 1, 1) := by decide +kernel
theorem dX2_edgesBetween_22 : decode cX2_edgesBetween 22 = .ok (.if_icmp .ne 18, 3) := by decide +kernel
theorem dX2_edgesBetween_25 : decode cX2_edgesBetween 25 = .ok (.aload_n 0, 1) := by decide +kernel
theorem dX2_edgesBetween_26 : decode cX2_edgesBetween 26 = .ok (.getfield 22, 3) := by decide +kernel
theorem dX2_edgesBetween_29 : decode cX2_edgesBetween 29 = .ok (.iload 4, 2) := by decide +kernel
theorem dX2_edgesBetween_31 : decode cX2_edgesBetween 31 = .ok (.iaload, 1) := by decide +kernel
theorem dX2_edgesBetween_32 : decode cX2_edgesBetween 32 = .ok (.iload_n 2, 1) := by decide +kernel
theorem dX2_edgesBetween_33 : decode cX2_edgesBetween 33 = .ok (.if_icmp .ne 7, 3) := by decide +kernel
theorem dX2_edgesBetween_36 : decode cX2_edgesBetween 36 = .ok (.iconst 1, 1) := by decide +kernel
theorem dX2_edgesBetween_37 : decode cX2_edgesBetween 37 = .ok (.goto 4, 3) := by decide +kernel
theorem dX2_edgesBetween_40 : decode cX2_edgesBetween 40 = .ok (.iconst 0, 1) := by decide +kernel
theorem dX2_edgesBetween_41 : decode cX2_edgesBetween 41 = .ok (.istore 5, 2) := by decide +kernel
theorem dX2_edgesBetween_43 : decode cX2_edgesBetween 43 = .ok (.aload_n 0, 1) := by decide +kernel
theorem dX2_edgesBetween_44 : decode cX2_edgesBetween 44 = .ok (.getfield 18, 3) := by decide +kernel
theorem dX2_edgesBetween_47 : decode cX2_edgesBetween 47 = .ok (.iload 4, 2) := by decide +kernel
theorem dX2_edgesBetween_49 : decode cX2_edgesBetween 49 = .ok (.iaload, 1) := by decide +kernel
theorem dX2_edgesBetween_50 : decode cX2_edgesBetween 50 = .ok (.iload_n 2, 1) := by decide +kernel
theorem dX2_edgesBetween_51 : decode cX2_edgesBetween 51 = .ok (.if_icmp .ne 18, 3) := by decide +kernel
theorem dX2_edgesBetween_54 : decode cX2_edgesBetween 54 = .ok (.aload_n 0, 1) := by decide +kernel
theorem dX2_edgesBetween_55 : decode cX2_edgesBetween 55 = .ok (.getfield 22, 3) := by decide +kernel
theorem dX2_edgesBetween_58 : decode cX2_edgesBetween 58 = .ok (.iload 4, 2) := by decide +kernel
theorem dX2_edgesBetween_60 : decode cX2_edgesBetween 60 = .ok (.iaload, 1) := by decide +kernel
theorem dX2_edgesBetween_61 : decode cX2_edgesBetween 61 = .ok (.iload_n 1, 1) := by decide +kernel
theorem dX2_edgesBetween_62 : decode cX2_edgesBetween 62 = .ok (.if_icmp .ne 7, 3) := by decide +kernel
theorem dX2_edgesBetween_65 : decode cX2_edgesBetween 65 = .ok (.iconst 1, 1) := by decide +kernel
theorem dX2_edgesBetween_66 : decode cX2_edgesBetween 66 = .ok (.goto 4, 3) := by decide +kernel
theorem dX2_edgesBetween_69 : decode cX2_edgesBetween 69 = .ok (.iconst 0, 1) := by decide +kernel
theorem dX2_edgesBetween_70 : decode cX2_edgesBetween 70 = .ok (.istore 6, 2) := by decide +kernel
theorem dX2_edgesBetween_72 : decode cX2_edgesBetween 72 = .ok (.iload 5, 2) := by decide +kernel
theorem dX2_edgesBetween_74 : decode cX2_edgesBetween 74 = .ok (.ifCond .ne 8, 3) := by decide +kernel
theorem dX2_edgesBetween_77 : decode cX2_edgesBetween 77 = .ok (.iload 6, 2) := by decide +kernel
theorem dX2_edgesBetween_79 : decode cX2_edgesBetween 79 = .ok (.ifCond .eq 6, 3) := by decide +kernel
theorem dX2_edgesBetween_82 : decode cX2_edgesBetween 82 = .ok (.iinc 3 1, 3) := by decide +kernel
theorem dX2_edgesBetween_85 : decode cX2_edgesBetween 85 = .ok (.iinc 4 1, 3) := by decide +kernel
theorem dX2_edgesBetween_88 : decode cX2_edgesBetween 88 = .ok (.goto (-83), 3) := by decide +kernel
theorem dX2_edgesBetween_91 : decode cX2_edgesBetween 91 = .ok (.iload_n 3, 1) := by decide +kernel
theorem dX2_edgesBetween_92 : decode cX2_edgesBetween 92 = .ok (.ireturn, 1) := by decide +kernel
