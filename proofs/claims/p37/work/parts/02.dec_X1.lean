theorem dX1_init_0 : decode cX1_init 0 = .ok (.aload_n 0, 1) := by decide +kernel
theorem dX1_init_1 : decode cX1_init 1 = .ok (.invokespecial 3, 3) := by decide +kernel
theorem dX1_init_4 : decode cX1_init 4 = .ok (.aload_n 0, 1) := by decide +kernel
theorem dX1_init_5 : decode cX1_init 5 = .ok (.iconst 0, 1) := by decide +kernel
theorem dX1_init_6 : decode cX1_init 6 = .ok (.putfield 9, 3) := by decide +kernel
theorem dX1_init_9 : decode cX1_init 9 = .ok (.aload_n 0, 1) := by decide +kernel
theorem dX1_init_10 : decode cX1_init 10 = .ok (.bipush 60, 2) := by decide +kernel
theorem dX1_init_12 : decode cX1_init 12 = .ok (.newarray .int, 2) := by decide +kernel
theorem dX1_init_14 : decode cX1_init 14 = .ok (.putfield 15, 3) := by decide +kernel
theorem dX1_init_17 : decode cX1_init 17 = .ok (.return_, 1) := by decide +kernel
theorem dX1_append_0 : decode cX1_append 0 = .ok (.aload_n 0, 1) := by decide +kernel
theorem dX1_append_1 : decode cX1_append 1 = .ok (.getfield 9, 3) := by decide +kernel
theorem dX1_append_4 : decode cX1_append 4 = .ok (.bipush 60, 2) := by decide +kernel
theorem dX1_append_6 : decode cX1_append 6 = .ok (.if_icmp .ge 23, 3) := by decide +kernel
theorem dX1_append_9 : decode cX1_append 9 = .ok (.aload_n 0, 1) := by decide +kernel
theorem dX1_append_10 : decode cX1_append 10 = .ok (.getfield 15, 3) := by decide +kernel
theorem dX1_append_13 : decode cX1_append 13 = .ok (.aload_n 0, 1) := by decide +kernel
theorem dX1_append_14 : decode cX1_append 14 = .ok (.getfield 9, 3) := by decide +kernel
theorem dX1_append_17 : decode cX1_append 17 = .ok (.iload_n 1, 1) := by decide +kernel
theorem dX1_append_18 : decode cX1_append 18 = .ok (.iastore, 1) := by decide +kernel
theorem dX1_append_19 : decode cX1_append 19 = .ok (.aload_n 0, 1) := by decide +kernel
theorem dX1_append_20 : decode cX1_append 20 = .ok (.dup, 1) := by decide +kernel
theorem dX1_append_21 : decode cX1_append 21 = .ok (.getfield 9, 3) := by decide +kernel
theorem dX1_append_24 : decode cX1_append 24 = .ok (.iconst 1, 1) := by decide +kernel
theorem dX1_append_25 : decode cX1_append 25 = .ok (.iadd, 1) := by decide +kernel
theorem dX1_append_26 : decode cX1_append 26 = .ok (.putfield 9, 3) := by decide +kernel
theorem dX1_append_29 : decode cX1_append 29 = .ok (.return_, 1) := by decide +kernel
theorem dX1_readInto_0 : decode cX1_readInto 0 = .ok (.aload_n 0, 1) := by decide +kernel
theorem dX1_readInto_1 : decode cX1_readInto 1 = .ok (.iconst 0, 1) := by decide +kernel
theorem dX1_readInto_2 : decode cX1_readInto 2 = .ok (.putfield 19, 3) := by decide +kernel
theorem dX1_readInto_5 : decode cX1_readInto 5 = .ok (.iconst 0, 1) := by decide +kernel
theorem dX1_readInto_6 : decode cX1_readInto 6 = .ok (.istore_n 2, 1) := by decide +kernel
theorem dX1_readInto_7 : decode cX1_readInto 7 = .ok (.iload_n 2, 1) := by decide +kernel
theorem dX1_readInto_8 : decode cX1_readInto 8 = .ok (.aload_n 0, 1) := by decide +kernel
theorem dX1_readInto_9 : decode cX1_readInto 9 = .ok (.getfield 9, 3) := by decide +kernel
theorem dX1_readInto_12 : decode cX1_readInto 12 = .ok (.if_icmp .ge 33, 3) := by decide +kernel
theorem dX1_readInto_15 : decode cX1_readInto 15 = .ok (.aload_n 0, 1) := by decide +kernel
theorem dX1_readInto_16 : decode cX1_readInto 16 = .ok (.getfield 15, 3) := by decide +kernel
theorem dX1_readInto_19 : decode cX1_readInto 19 = .ok (.iload_n 2, 1) := by decide +kernel
theorem dX1_readInto_20 : decode cX1_readInto 20 = .ok (.iaload, 1) := by decide +kernel
theorem dX1_readInto_21 : decode cX1_readInto 21 = .ok (.istore_n 3, 1) := by decide +kernel
theorem dX1_readInto_22 : decode cX1_readInto 22 = .ok (.iload_n 3, 1) := by decide +kernel
theorem dX1_readInto_23 : decode cX1_readInto 23 = .ok (.bipush 32, 2) := by decide +kernel
theorem dX1_readInto_25 : decode cX1_readInto 25 = .ok (.if_icmp .eq 14, 3) := by decide +kernel
theorem dX1_readInto_28 : decode cX1_readInto 28 = .ok (.aload_n 0, 1) := by decide +kernel
theorem dX1_readInto_29 : decode cX1_readInto 29 = .ok (.iload_n 3, 1) := by decide +kernel
theorem dX1_readInto_30 : decode cX1_readInto 30 = .ok (.aload_n 1, 1) := by decide +kernel
theorem dX1_readInto_31 : decode cX1_readInto 31 = .ok (.invokevirtual 22, 3) := by decide +kernel
theorem dX1_readInto_34 : decode cX1_readInto 34 = .ok (.ifCond .ne 5, 3) := by decide +kernel
theorem dX1_readInto_37 : decode cX1_readInto 37 = .ok (.iload_n 2, 1) := by decide +kernel
theorem dX1_readInto_38 : decode cX1_readInto 38 = .ok (.ireturn, 1) := by decide +kernel
theorem dX1_readInto_39 : decode cX1_readInto 39 = .ok (.iinc 2 1, 3) := by decide +kernel
theorem dX1_readInto_42 : decode cX1_readInto 42 = .ok (.goto (-35), 3) := by decide +kernel
theorem dX1_readInto_45 : decode cX1_readInto 45 = .ok (.aload_n 0, 1) := by decide +kernel
theorem dX1_readInto_46 : decode cX1_readInto 46 = .ok (.getfield 19, 3) := by decide +kernel
theorem dX1_readInto_49 : decode cX1_readInto 49 = .ok (.ifCond .ne 7, 3) := by decide +kernel
theorem dX1_readInto_52 : decode cX1_readInto 52 = .ok (.iconst (-1), 1) := by decide +kernel
theorem dX1_readInto_53 : decode cX1_readInto 53 = .ok (.goto 7, 3) := by decide +kernel
theorem dX1_readInto_56 : decode cX1_readInto 56 = .ok (.aload_n 0, 1) := by decide +kernel
theorem dX1_readInto_57 : decode cX1_readInto 57 = .ok (.getfield 9, 3) := by decide +kernel
theorem dX1_readInto_60 : decode cX1_readInto 60 = .ok (.ireturn, 1) := by decide +kernel
theorem dX1_accept_0 : decode cX1_accept 0 = .ok (.aload_n 0, 1) := by decide +kernel
theorem dX1_accept_1 : decode cX1_accept 1 = .ok (.getfield 19, 3) := by decide +kernel
theorem dX1_accept_4 : decode cX1_accept 4 = .ok (.tableswitch 54 0 2 #[28, 38, 44], 28) := by decide +kernel
theorem dX1_accept_32 : decode cX1_accept 32 = .ok (.aload_n 0, 1) := by decide +kernel
theorem dX1_accept_33 : decode cX1_accept 33 = .ok (.iload_n 1, 1) := by decide +kernel
theorem dX1_accept_34 : decode cX1_accept 34 = .ok (.bipush 48, 2) := by decide +kernel
theorem dX1_accept_36 : decode cX1_accept 36 = .ok (.isub, 1) := by decide +kernel
theorem dX1_accept_37 : decode cX1_accept 37 = .ok (.aload_n 2, 1) := by decide +kernel
theorem dX1_accept_38 : decode cX1_accept 38 = .ok (.invokevirtual 26, 3) := by decide +kernel
theorem dX1_accept_41 : decode cX1_accept 41 = .ok (.ireturn, 1) := by decide +kernel
theorem dX1_accept_42 : decode cX1_accept 42 = .ok (.aload_n 0, 1) := by decide +kernel
theorem dX1_accept_43 : decode cX1_accept 43 = .ok (.iload_n 1, 1) := by decide +kernel
theorem dX1_accept_44 : decode cX1_accept 44 = .ok (.invokevirtual 29, 3) := by decide +kernel
theorem dX1_accept_47 : decode cX1_accept 47 = .ok (.ireturn, 1) := by decide +kernel
theorem dX1_accept_48 : decode cX1_accept 48 = .ok (.aload_n 0, 1) := by decide +kernel
theorem dX1_accept_49 : decode cX1_accept 49 = .ok (.iload_n 1, 1) := by decide +kernel
theorem dX1_accept_50 : decode cX1_accept 50 = .ok (.bipush 48, 2) := by decide +kernel
theorem dX1_accept_52 : decode cX1_accept 52 = .ok (.isub, 1) := by decide +kernel
theorem dX1_accept_53 : decode cX1_accept 53 = .ok (.aload_n 2, 1) := by decide +kernel
theorem dX1_accept_54 : decode cX1_accept 54 = .ok (.invokevirtual 33, 3) := by decide +kernel
theorem dX1_accept_57 : decode cX1_accept 57 = .ok (.ireturn, 1) := by decide +kernel
theorem dX1_accept_58 : decode cX1_accept 58 = .ok (.aload_n 0, 1) := by decide +kernel
theorem dX1_accept_59 : decode cX1_accept 59 = .ok (.iload_n 1, 1) := by decide +kernel
theorem dX1_accept_60 : decode cX1_accept 60 = .ok (.aload_n 2, 1) := by decide +kernel
theorem dX1_accept_61 : decode cX1_accept 61 = .ok (.invokevirtual 36, 3) := by decide +kernel
theorem dX1_accept_64 : decode cX1_accept 64 = .ok (.ireturn, 1) := by decide +kernel
theorem dX1_acceptFirst_0 : decode cX1_acceptFirst 0 = .ok (.aload_n 2, 1) := by decide +kernel
theorem dX1_acceptFirst_1 : decode cX1_acceptFirst 1 = .ok (.invokevirtual 39, 3) := by decide +kernel
theorem dX1_acceptFirst_4 : decode cX1_acceptFirst 4 = .ok (.ifCond .ne 11, 3) := by decide +kernel
theorem dX1_acceptFirst_7 : decode cX1_acceptFirst 7 = .ok (.aload_n 2, 1) := by decide +kernel
theorem dX1_acceptFirst_8 : decode cX1_acceptFirst 8 = .ok (.iload_n 1, 1) := by decide +kernel
theorem dX1_acceptFirst_9 : decode cX1_acceptFirst 9 = .ok (.invokevirtual 45, 3) := by decide +kernel
theorem dX1_acceptFirst_12 : decode cX1_acceptFirst 12 = .ok (.ifCond .ne 5, 3) := by decide +kernel
theorem dX1_acceptFirst_15 : decode cX1_acceptFirst 15 = .ok (.iconst 0, 1) := by decide +kernel
theorem dX1_acceptFirst_16 : decode cX1_acceptFirst 16 = .ok (.ireturn, 1) := by decide +kernel
theorem dX1_acceptFirst_17 : decode cX1_acceptFirst 17 = .ok (.aload_n 0, 1) := by decide +kernel
theorem dX1_acceptFirst_18 : decode cX1_acceptFirst 18 = .ok (.iload_n 1, 1) := by decide +kernel
theorem dX1_acceptFirst_19 : decode cX1_acceptFirst 19 = .ok (.putfield 48, 3) := by decide +kernel
theorem dX1_acceptFirst_22 : decode cX1_acceptFirst 22 = .ok (.aload_n 0, 1) := by decide +kernel
theorem dX1_acceptFirst_23 : decode cX1_acceptFirst 23 = .ok (.iconst 1, 1) := by decide +kernel
theorem dX1_acceptFirst_24 : decode cX1_acceptFirst 24 = .ok (.putfield 19, 3) := by decide +kernel
theorem dX1_acceptFirst_27 : decode cX1_acceptFirst 27 = .ok (.iconst 1, 1) := by decide +kernel
theorem dX1_acceptFirst_28 : decode cX1_acceptFirst 28 = .ok (.ireturn, 1) := by decide +kernel
theorem dX1_acceptSign_0 : decode cX1_acceptSign 0 = .ok (.iload_n 1, 1) := by decide +kernel
theorem dX1_acceptSign_1 : decode cX1_acceptSign 1 = .ok (.bipush 45, 2) := by decide +kernel
theorem dX1_acceptSign_3 : decode cX1_acceptSign 3 = .ok (.if_icmp .eq 11, 3) := by decide +kernel
theorem dX1_acceptSign_6 : decode cX1_acceptSign 6 = .ok (.iload_n 1, 1) := by decide +kernel
theorem dX1_acceptSign_7 : decode cX1_acceptSign 7 = .ok (.bipush 126, 2) := by decide +kernel
theorem dX1_acceptSign_9 : decode cX1_acceptSign 9 = .ok (.if_icmp .eq 5, 3) := by decide +kernel
theorem dX1_acceptSign_12 : decode cX1_acceptSign 12 = .ok (.iconst 0, 1) := by decide +kernel
theorem dX1_acceptSign_13 : decode cX1_acceptSign 13 = .ok (.ireturn, 1) := by decide +kernel
theorem dX1_acceptSign_14 : decode cX1_acceptSign 14 = .ok (.aload_n 0, 1) := by decide +kernel
theorem dX1_acceptSign_15 : decode cX1_acceptSign 15 = .ok (.iload_n 1, 1) := by decide +kernel
theorem dX1_acceptSign_16 : decode cX1_acceptSign 16 = .ok (.bipush 45, 2) := by decide +kernel
theorem dX1_acceptSign_18 : decode cX1_acceptSign 18 = .ok (.if_icmp .ne 7, 3) := by decide +kernel
theorem dX1_acceptSign_21 : decode cX1_acceptSign 21 = .ok (.iconst 1, 1) := by decide +kernel
theorem dX1_acceptSign_22 : decode cX1_acceptSign 22 = .ok (.goto 4, 3) := by decide +kernel
theorem dX1_acceptSign_25 : decode cX1_acceptSign 25 = .ok (.iconst (-1), 1) := by decide +kernel
theorem dX1_acceptSign_26 : decode cX1_acceptSign 26 = .ok (.putfield 51, 3) := by decide +kernel
theorem dX1_acceptSign_29 : decode cX1_acceptSign 29 = .ok (.aload_n 0, 1) := by decide +kernel
theorem dX1_acceptSign_30 : decode cX1_acceptSign 30 = .ok (.iconst 2, 1) := by decide +kernel
theorem dX1_acceptSign_31 : decode cX1_acceptSign 31 = .ok (.putfield 19, 3) := by decide +kernel
theorem dX1_acceptSign_34 : decode cX1_acceptSign 34 = .ok (.iconst 1, 1) := by decide +kernel
theorem dX1_acceptSign_35 : decode cX1_acceptSign 35 = .ok (.ireturn, 1) := by decide +kernel
theorem dX1_acceptSecond_0 : decode cX1_acceptSecond 0 = .ok (.iload_n 1, 1) := by decide +kernel
theorem dX1_acceptSecond_1 : decode cX1_acceptSecond 1 = .ok (.aload_n 0, 1) := by decide +kernel
theorem dX1_acceptSecond_2 : decode cX1_acceptSecond 2 = .ok (.getfield 48, 3) := by decide +kernel
theorem dX1_acceptSecond_5 : decode cX1_acceptSecond 5 = .ok (.if_icmp .eq 11, 3) := by decide +kernel
theorem dX1_acceptSecond_8 : decode cX1_acceptSecond 8 = .ok (.aload_n 2, 1) := by decide +kernel
theorem dX1_acceptSecond_9 : decode cX1_acceptSecond 9 = .ok (.iload_n 1, 1) := by decide +kernel
theorem dX1_acceptSecond_10 : decode cX1_acceptSecond 10 = .ok (.invokevirtual 45, 3) := by decide +kernel
theorem dX1_acceptSecond_13 : decode cX1_acceptSecond 13 = .ok (.ifCond .ne 5, 3) := by decide +kernel
theorem dX1_acceptSecond_16 : decode cX1_acceptSecond 16 = .ok (.iconst 0, 1) := by decide +kernel
theorem dX1_acceptSecond_17 : decode cX1_acceptSecond 17 = .ok (.ireturn, 1) := by decide +kernel
theorem dX1_acceptSecond_18 : decode cX1_acceptSecond 18 = .ok (.aload_n 0, 1) := by decide +kernel
theorem dX1_acceptSecond_19 : decode cX1_acceptSecond 19 = .ok (.iload_n 1, 1) := by decide +kernel
theorem dX1_acceptSecond_20 : decode cX1_acceptSecond 20 = .ok (.putfield 54, 3) := by decide +kernel
theorem dX1_acceptSecond_23 : decode cX1_acceptSecond 23 = .ok (.aload_n 0, 1) := by decide +kernel
theorem dX1_acceptSecond_24 : decode cX1_acceptSecond 24 = .ok (.iconst 3, 1) := by decide +kernel
theorem dX1_acceptSecond_25 : decode cX1_acceptSecond 25 = .ok (.putfield 19, 3) := by decide +kernel
theorem dX1_acceptSecond_28 : decode cX1_acceptSecond 28 = .ok (.iconst 1, 1) := by decide +kernel
theorem dX1_acceptSecond_29 : decode cX1_acceptSecond 29 = .ok (.ireturn, 1) := by decide +kernel
theorem dX1_acceptEnd_0 : decode cX1_acceptEnd 0 = .ok (.iload_n 1, 1) := by decide +kernel
theorem dX1_acceptEnd_1 : decode cX1_acceptEnd 1 = .ok (.bipush 59, 2) := by decide +kernel
theorem dX1_acceptEnd_3 : decode cX1_acceptEnd 3 = .ok (.if_icmp .eq 5, 3) := by decide +kernel
theorem dX1_acceptEnd_6 : decode cX1_acceptEnd 6 = .ok (.iconst 0, 1) := by decide +kernel
theorem dX1_acceptEnd_7 : decode cX1_acceptEnd 7 = .ok (.ireturn, 1) := by decide +kernel
theorem dX1_acceptEnd_8 : decode cX1_acceptEnd 8 = .ok (.aload_n 2, 1) := by decide +kernel
theorem dX1_acceptEnd_9 : decode cX1_acceptEnd 9 = .ok (.aload_n 0, 1) := by decide +kernel
theorem dX1_acceptEnd_10 : decode cX1_acceptEnd 10 = .ok (.getfield 48, 3) := by decide +kernel
theorem dX1_acceptEnd_13 : decode cX1_acceptEnd 13 = .ok (.aload_n 0, 1) := by decide +kernel
theorem dX1_acceptEnd_14 : decode cX1_acceptEnd 14 = .ok (.getfield 54, 3) := by decide +kernel
theorem dX1_acceptEnd_17 : decode cX1_acceptEnd 17 = .ok (.aload_n 0, 1) := by decide +kernel
theorem dX1_acceptEnd_18 : decode cX1_acceptEnd 18 = .ok (.getfield 51, 3) := by decide +kernel
theorem dX1_acceptEnd_21 : decode cX1_acceptEnd 21 = .ok (.invokevirtual 57, 3) := by decide +kernel
theorem dX1_acceptEnd_24 : decode cX1_acceptEnd 24 = .ok (.aload_n 0, 1) := by decide +kernel
theorem dX1_acceptEnd_25 : decode cX1_acceptEnd 25 = .ok (.iconst 0, 1) := by decide +kernel
theorem dX1_acceptEnd_26 : decode cX1_acceptEnd 26 = .ok (.putfield 19, 3) := by decide +kernel
theorem dX1_acceptEnd_29 : decode cX1_acceptEnd 29 = .ok (.iconst 1, 1) := by decide +kernel
theorem dX1_acceptEnd_30 : decode cX1_acceptEnd 30 = .ok (.ireturn, 1) := by decide +kernel
