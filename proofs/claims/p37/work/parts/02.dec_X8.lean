theorem dX8_init_0 : decode cX8_init 0 = .ok (.aload_n 0, 1) := by decide +kernel
theorem dX8_init_1 : decode cX8_init 1 = .ok (.invokespecial 3, 3) := by decide +kernel
theorem dX8_init_4 : decode cX8_init 4 = .ok (.aload_n 0, 1) := by decide +kernel
theorem dX8_init_5 : decode cX8_init 5 = .ok (.new 9, 3) := by decide +kernel
theorem dX8_init_8 : decode cX8_init 8 = .ok (.dup, 1) := by decide +kernel
theorem dX8_init_9 : decode cX8_init 9 = .ok (.invokespecial 11, 3) := by decide +kernel
theorem dX8_init_12 : decode cX8_init 12 = .ok (.putfield 12, 3) := by decide +kernel
theorem dX8_init_15 : decode cX8_init 15 = .ok (.aload_n 0, 1) := by decide +kernel
theorem dX8_init_16 : decode cX8_init 16 = .ok (.new 9, 3) := by decide +kernel
theorem dX8_init_19 : decode cX8_init 19 = .ok (.dup, 1) := by decide +kernel
theorem dX8_init_20 : decode cX8_init 20 = .ok (.invokespecial 11, 3) := by decide +kernel
theorem dX8_init_23 : decode cX8_init 23 = .ok (.putfield 18, 3) := by decide +kernel
theorem dX8_init_26 : decode cX8_init 26 = .ok (.aload_n 0, 1) := by decide +kernel
theorem dX8_init_27 : decode cX8_init 27 = .ok (.new 21, 3) := by decide +kernel
theorem dX8_init_30 : decode cX8_init 30 = .ok (.dup, 1) := by decide +kernel
theorem dX8_init_31 : decode cX8_init 31 = .ok (.invokespecial 23, 3) := by decide +kernel
theorem dX8_init_34 : decode cX8_init 34 = .ok (.putfield 24, 3) := by decide +kernel
theorem dX8_init_37 : decode cX8_init 37 = .ok (.aload_n 0, 1) := by decide +kernel
theorem dX8_init_38 : decode cX8_init 38 = .ok (.new 28, 3) := by decide +kernel
theorem dX8_init_41 : decode cX8_init 41 = .ok (.dup, 1) := by decide +kernel
theorem dX8_init_42 : decode cX8_init 42 = .ok (.invokespecial 30, 3) := by decide +kernel
theorem dX8_init_45 : decode cX8_init 45 = .ok (.putfield 31, 3) := by decide +kernel
theorem dX8_init_48 : decode cX8_init 48 = .ok (.aload_n 0, 1) := by decide +kernel
theorem dX8_init_49 : decode cX8_init 49 = .ok (.new 35, 3) := by decide +kernel
theorem dX8_init_52 : decode cX8_init 52 = .ok (.dup, 1) := by decide +kernel
theorem dX8_init_53 : decode cX8_init 53 = .ok (.invokespecial 37, 3) := by decide +kernel
theorem dX8_init_56 : decode cX8_init 56 = .ok (.putfield 38, 3) := by decide +kernel
theorem dX8_init_59 : decode cX8_init 59 = .ok (.aload_n 0, 1) := by decide +kernel
theorem dX8_init_60 : decode cX8_init 60 = .ok (.new 42, 3) := by decide +kernel
theorem dX8_init_63 : decode cX8_init 63 = .ok (.dup, 1) := by decide +kernel
theorem dX8_init_64 : decode cX8_init 64 = .ok (.invokespecial 44, 3) := by decide +kernel
theorem dX8_init_67 : decode cX8_init 67 = .ok (.putfield 45, 3) := by decide +kernel
theorem dX8_init_70 : decode cX8_init 70 = .ok (.aload_n 0, 1) := by decide +kernel
theorem dX8_init_71 : decode cX8_init 71 = .ok (.new 49, 3) := by decide +kernel
theorem dX8_init_74 : decode cX8_init 74 = .ok (.dup, 1) := by decide +kernel
theorem dX8_init_75 : decode cX8_init 75 = .ok (.invokespecial 51, 3) := by decide +kernel
theorem dX8_init_78 : decode cX8_init 78 = .ok (.putfield 52, 3) := by decide +kernel
theorem dX8_init_81 : decode cX8_init 81 = .ok (.aload_n 0, 1) := by decide +kernel
theorem dX8_init_82 : decode cX8_init 82 = .ok (.new 56, 3) := by decide +kernel
theorem dX8_init_85 : decode cX8_init 85 = .ok (.dup, 1) := by decide +kernel
theorem dX8_init_86 : decode cX8_init 86 = .ok (.invokespecial 58, 3) := by decide +kernel
theorem dX8_init_89 : decode cX8_init 89 = .ok (.putfield 59, 3) := by decide +kernel
theorem dX8_init_92 : decode cX8_init 92 = .ok (.aload_n 0, 1) := by decide +kernel
theorem dX8_init_93 : decode cX8_init 93 = .ok (.new 63, 3) := by decide +kernel
theorem dX8_init_96 : decode cX8_init 96 = .ok (.dup, 1) := by decide +kernel
theorem dX8_init_97 : decode cX8_init 97 = .ok (.invokespecial 65, 3) := by decide +kernel
theorem dX8_init_100 : decode cX8_init 100 = .ok (.putfield 66, 3) := by decide +kernel
theorem dX8_init_103 : decode cX8_init 103 = .ok (.return_, 1) := by decide +kernel
theorem dX8_configure_0 : decode cX8_configure 0 = .ok (.iload_n 1, 1) := by decide +kernel
theorem dX8_configure_1 : decode cX8_configure 1 = .ok (.iconst 1, 1) := by decide +kernel
theorem dX8_configure_2 : decode cX8_configure 2 = .ok (.if_icmp .lt 9, 3) := by decide +kernel
theorem dX8_configure_5 : decode cX8_configure 5 = .ok (.iload_n 1, 1) := by decide +kernel
theorem dX8_configure_6 : decode cX8_configure 6 = .ok (.bipush 6, 2) := by decide +kernel
theorem dX8_configure_8 : decode cX8_configure 8 = .ok (.if_icmp .le 5, 3) := by decide +kernel
theorem dX8_configure_11 : decode cX8_configure 11 = .ok (.iconst (-1), 1) := by decide +kernel
theorem dX8_configure_12 : decode cX8_configure 12 = .ok (.ireturn, 1) := by decide +kernel
theorem dX8_configure_13 : decode cX8_configure 13 = .ok (.aload_n 0, 1) := by decide +kernel
theorem dX8_configure_14 : decode cX8_configure 14 = .ok (.getfield 12, 3) := by decide +kernel
theorem dX8_configure_17 : decode cX8_configure 17 = .ok (.getfield 70, 3) := by decide +kernel
theorem dX8_configure_20 : decode cX8_configure 20 = .ok (.istore_n 2, 1) := by decide +kernel
theorem dX8_configure_21 : decode cX8_configure 21 = .ok (.aload_n 0, 1) := by decide +kernel
theorem dX8_configure_22 : decode cX8_configure 22 = .ok (.getfield 24, 3) := by decide +kernel
theorem dX8_configure_25 : decode cX8_configure 25 = .ok (.aload_n 0, 1) := by decide +kernel
theorem dX8_configure_26 : decode cX8_configure 26 = .ok (.getfield 12, 3) := by decide +kernel
theorem dX8_configure_29 : decode cX8_configure 29 = .ok (.invokevirtual 74, 3) := by decide +kernel
theorem dX8_configure_32 : decode cX8_configure 32 = .ok (.aload_n 0, 1) := by decide +kernel
theorem dX8_configure_33 : decode cX8_configure 33 = .ok (.getfield 12, 3) := by decide +kernel
theorem dX8_configure_36 : decode cX8_configure 36 = .ok (.iload_n 1, 1) := by decide +kernel
theorem dX8_configure_37 : decode cX8_configure 37 = .ok (.invokevirtual 78, 3) := by decide +kernel
theorem dX8_configure_40 : decode cX8_configure 40 = .ok (.iload_n 2, 1) := by decide +kernel
theorem dX8_configure_41 : decode cX8_configure 41 = .ok (.ireturn, 1) := by decide +kernel
theorem dX8_addEdge_0 : decode cX8_addEdge 0 = .ok (.aload_n 0, 1) := by decide +kernel
theorem dX8_addEdge_1 : decode cX8_addEdge 1 = .ok (.getfield 12, 3) := by decide +kernel
theorem dX8_addEdge_4 : decode cX8_addEdge 4 = .ok (.iload_n 1, 1) := by decide +kernel
theorem dX8_addEdge_5 : decode cX8_addEdge 5 = .ok (.invokevirtual 82, 3) := by decide +kernel
theorem dX8_addEdge_8 : decode cX8_addEdge 8 = .ok (.ifCond .eq 19, 3) := by decide +kernel
theorem dX8_addEdge_11 : decode cX8_addEdge 11 = .ok (.aload_n 0, 1) := by decide +kernel
theorem dX8_addEdge_12 : decode cX8_addEdge 12 = .ok (.getfield 12, 3) := by decide +kernel
theorem dX8_addEdge_15 : decode cX8_addEdge 15 = .ok (.iload_n 2, 1) := by decide +kernel
theorem dX8_addEdge_16 : decode cX8_addEdge 16 = .ok (.invokevirtual 82, 3) := by decide +kernel
theorem dX8_addEdge_19 : decode cX8_addEdge 19 = .ok (.ifCond .eq 8, 3) := by decide +kernel
theorem dX8_addEdge_22 : decode cX8_addEdge 22 = .ok (.iload_n 1, 1) := by decide +kernel
theorem dX8_addEdge_23 : decode cX8_addEdge 23 = .ok (.iload_n 2, 1) := by decide +kernel
theorem dX8_addEdge_24 : decode cX8_addEdge 24 = .ok (.if_icmp .ne 5, 3) := by decide +kernel
theorem dX8_addEdge_27 : decode cX8_addEdge 27 = .ok (.iconst (-1), 1) := by decide +kernel
theorem dX8_addEdge_28 : decode cX8_addEdge 28 = .ok (.ireturn, 1) := by decide +kernel
theorem dX8_addEdge_29 : decode cX8_addEdge 29 = .ok (.iload_n 3, 1) := by decide +kernel
theorem dX8_addEdge_30 : decode cX8_addEdge 30 = .ok (.iconst 1, 1) := by decide +kernel
theorem dX8_addEdge_31 : decode cX8_addEdge 31 = .ok (.if_icmp .eq 10, 3) := by decide +kernel
theorem dX8_addEdge_34 : decode cX8_addEdge 34 = .ok (.iload_n 3, 1) := by decide +kernel
theorem dX8_addEdge_35 : decode cX8_addEdge 35 = .ok (.iconst (-1), 1) := by decide +kernel
theorem dX8_addEdge_36 : decode cX8_addEdge 36 = .ok (.if_icmp .eq 5, 3) := by decide +kernel
theorem dX8_addEdge_39 : decode cX8_addEdge 39 = .ok (.iconst (-1), 1) := by decide +kernel
theorem dX8_addEdge_40 : decode cX8_addEdge 40 = .ok (.ireturn, 1) := by decide +kernel
theorem dX8_addEdge_41 : decode cX8_addEdge 41 = .ok (.aload_n 0, 1) := by decide +kernel
theorem dX8_addEdge_42 : decode cX8_addEdge 42 = .ok (.getfield 12, 3) := by decide +kernel
theorem dX8_addEdge_45 : decode cX8_addEdge 45 = .ok (.invokevirtual 86, 3) := by decide +kernel
theorem dX8_addEdge_48 : decode cX8_addEdge 48 = .ok (.ifCond .eq 6, 3) := by decide +kernel
theorem dX8_addEdge_51 : decode cX8_addEdge 51 = .ok (.bipush (-3), 2) := by decide +kernel
theorem dX8_addEdge_53 : decode cX8_addEdge 53 = .ok (.ireturn, 1) := by decide +kernel
theorem dX8_addEdge_54 : decode cX8_addEdge 54 = .ok (.aload_n 0, 1) := by decide +kernel
theorem dX8_addEdge_55 : decode cX8_addEdge 55 = .ok (.getfield 24, 3) := by decide +kernel
theorem dX8_addEdge_58 : decode cX8_addEdge 58 = .ok (.aload_n 0, 1) := by decide +kernel
theorem dX8_addEdge_59 : decode cX8_addEdge 59 = .ok (.getfield 12, 3) := by decide +kernel
theorem dX8_addEdge_62 : decode cX8_addEdge 62 = .ok (.invokevirtual 74, 3) := by decide +kernel
theorem dX8_addEdge_65 : decode cX8_addEdge 65 = .ok (.aload_n 0, 1) := by decide +kernel
theorem dX8_addEdge_66 : decode cX8_addEdge 66 = .ok (.getfield 12, 3) := by decide +kernel
theorem dX8_addEdge_69 : decode cX8_addEdge 69 = .ok (.iload_n 1, 1) := by decide +kernel
theorem dX8_addEdge_70 : decode cX8_addEdge 70 = .ok (.iload_n 2, 1) := by decide +kernel
theorem dX8_addEdge_71 : decode cX8_addEdge 71 = .ok (.iload_n 3, 1) := by decide +kernel
theorem dX8_addEdge_72 : decode cX8_addEdge 72 = .ok (.invokevirtual 90, 3) := by decide +kernel
theorem dX8_addEdge_75 : decode cX8_addEdge 75 = .ok (.aload_n 0, 1) := by decide +kernel
theorem dX8_addEdge_76 : decode cX8_addEdge 76 = .ok (.getfield 12, 3) := by decide +kernel
theorem dX8_addEdge_79 : decode cX8_addEdge 79 = .ok (.getfield 94, 3) := by decide +kernel
theorem dX8_addEdge_82 : decode cX8_addEdge 82 = .ok (.iconst 1, 1) := by decide +kernel
theorem dX8_addEdge_83 : decode cX8_addEdge 83 = .ok (.isub, 1) := by decide +kernel
theorem dX8_addEdge_84 : decode cX8_addEdge 84 = .ok (.ireturn, 1) := by decide +kernel
theorem dX8_removeEdge_0 : decode cX8_removeEdge 0 = .ok (.aload_n 0, 1) := by decide +kernel
theorem dX8_removeEdge_1 : decode cX8_removeEdge 1 = .ok (.getfield 12, 3) := by decide +kernel
theorem dX8_removeEdge_4 : decode cX8_removeEdge 4 = .ok (.iload_n 1, 1) := by decide +kernel
theorem dX8_removeEdge_5 : decode cX8_removeEdge 5 = .ok (.invokevirtual 97, 3) := by decide +kernel
theorem dX8_removeEdge_8 : decode cX8_removeEdge 8 = .ok (.ifCond .ne 5, 3) := by decide +kernel
theorem dX8_removeEdge_11 : decode cX8_removeEdge 11 = .ok (.iconst (-1), 1) := by decide +kernel
theorem dX8_removeEdge_12 : decode cX8_removeEdge 12 = .ok (.ireturn, 1) := by decide +kernel
theorem dX8_removeEdge_13 : decode cX8_removeEdge 13 = .ok (.aload_n 0, 1) := by decide +kernel
theorem dX8_removeEdge_14 : decode cX8_removeEdge 14 = .ok (.getfield 24, 3) := by decide +kernel
theorem dX8_removeEdge_17 : decode cX8_removeEdge 17 = .ok (.aload_n 0, 1) := by decide +kernel
theorem dX8_removeEdge_18 : decode cX8_removeEdge 18 = .ok (.getfield 12, 3) := by decide +kernel
theorem dX8_removeEdge_21 : decode cX8_removeEdge 21 = .ok (.invokevirtual 74, 3) := by decide +kernel
theorem dX8_removeEdge_24 : decode cX8_removeEdge 24 = .ok (.aload_n 0, 1) := by decide +kernel
theorem dX8_removeEdge_25 : decode cX8_removeEdge 25 = .ok (.getfield 12, 3) := by decide +kernel
theorem dX8_removeEdge_28 : decode cX8_removeEdge 28 = .ok (.iload_n 1, 1) := by decide +kernel
theorem dX8_removeEdge_29 : decode cX8_removeEdge 29 = .ok (.invokevirtual 100, 3) := by decide +kernel
theorem dX8_removeEdge_32 : decode cX8_removeEdge 32 = .ok (.aload_n 0, 1) := by decide +kernel
theorem dX8_removeEdge_33 : decode cX8_removeEdge 33 = .ok (.getfield 12, 3) := by decide +kernel
theorem dX8_removeEdge_36 : decode cX8_removeEdge 36 = .ok (.getfield 94, 3) := by decide +kernel
theorem dX8_removeEdge_39 : decode cX8_removeEdge 39 = .ok (.ireturn, 1) := by decide +kernel
theorem dX8_flipSign_0 : decode cX8_flipSign 0 = .ok (.aload_n 0, 1) := by decide +kernel
theorem dX8_flipSign_1 : decode cX8_flipSign 1 = .ok (.getfield 12, 3) := by decide +kernel
theorem dX8_flipSign_4 : decode cX8_flipSign 4 = .ok (.iload_n 1, 1) := by decide +kernel
theorem dX8_flipSign_5 : decode cX8_flipSign 5 = .ok (.invokevirtual 97, 3) := by decide +kernel
theorem dX8_flipSign_8 : decode cX8_flipSign 8 = .ok (.ifCond .ne 5, 3) := by decide +kernel
theorem dX8_flipSign_11 : decode cX8_flipSign 11 = .ok (.iconst 0, 1) := by decide +kernel
theorem dX8_flipSign_12 : decode cX8_flipSign 12 = .ok (.ireturn, 1) := by decide +kernel
theorem dX8_flipSign_13 : decode cX8_flipSign 13 = .ok (.aload_n 0, 1) := by decide +kernel
theorem dX8_flipSign_14 : decode cX8_flipSign 14 = .ok (.getfield 24, 3) := by decide +kernel
theorem dX8_flipSign_17 : decode cX8_flipSign 17 = .ok (.aload_n 0, 1) := by decide +kernel
theorem dX8_flipSign_18 : decode cX8_flipSign 18 = .ok (.getfield 12, 3) := by decide +kernel
theorem dX8_flipSign_21 : decode cX8_flipSign 21 = .ok (.invokevirtual 74, 3) := by decide +kernel
theorem dX8_flipSign_24 : decode cX8_flipSign 24 = .ok (.aload_n 0, 1) := by decide +kernel
theorem dX8_flipSign_25 : decode cX8_flipSign 25 = .ok (.getfield 12, 3) := by decide +kernel
theorem dX8_flipSign_28 : decode cX8_flipSign 28 = .ok (.getfield 103, 3) := by decide +kernel
theorem dX8_flipSign_31 : decode cX8_flipSign 31 = .ok (.iload_n 1, 1) := by decide +kernel
theorem dX8_flipSign_32 : decode cX8_flipSign 32 = .ok (.aload_n 0, 1) := by decide +kernel
theorem dX8_flipSign_33 : decode cX8_flipSign 33 = .ok (.getfield 12, 3) := by decide +kernel
theorem dX8_flipSign_36 : decode cX8_flipSign 36 = .ok (.getfield 103, 3) := by decide +kernel
theorem dX8_flipSign_39 : decode cX8_flipSign 39 = .ok (.iload_n 1, 1) := by decide +kernel
theorem dX8_flipSign_40 : decode cX8_flipSign 40 = .ok (.iaload, 1) := by decide +kernel
theorem dX8_flipSign_41 : decode cX8_flipSign 41 = .ok (.ineg, 1) := by decide +kernel
theorem dX8_flipSign_42 : decode cX8_flipSign 42 = .ok (.iastore, 1) := by decide +kernel
theorem dX8_flipSign_43 : decode cX8_flipSign 43 = .ok (.aload_n 0, 1) := by decide +kernel
theorem dX8_flipSign_44 : decode cX8_flipSign 44 = .ok (.getfield 12, 3) := by decide +kernel
theorem dX8_flipSign_47 : decode cX8_flipSign 47 = .ok (.getfield 103, 3) := by decide +kernel
theorem dX8_flipSign_50 : decode cX8_flipSign 50 = .ok (.iload_n 1, 1) := by decide +kernel
theorem dX8_flipSign_51 : decode cX8_flipSign 51 = .ok (.iaload, 1) := by decide +kernel
theorem dX8_flipSign_52 : decode cX8_flipSign 52 = .ok (.ireturn, 1) := by decide +kernel
theorem dX8_appendCharacter_0 : decode cX8_appendCharacter 0 = .ok (.iload_n 1, 1) := by decide +kernel
theorem dX8_appendCharacter_1 : decode cX8_appendCharacter 1 = .ok (.ifCond .lt 10, 3) := by decide +kernel
theorem dX8_appendCharacter_4 : decode cX8_appendCharacter 4 = .ok (.iload_n 1, 1) := by decide +kernel
theorem dX8_appendCharacter_5 : decode cX8_appendCharacter 5 = .ok (.sipush 255, 3) := by decide +kernel
theorem dX8_appendCharacter_8 : decode cX8_appendCharacter 8 = .ok (.if_icmp .le 5, 3) := by decide +kernel
theorem dX8_appendCharacter_11 : decode cX8_appendCharacter 11 = .ok (.iconst (-1), 1) := by decide +kernel
theorem dX8_appendCharacter_12 : decode cX8_appendCharacter 12 = .ok (.ireturn, 1) := by decide +kernel
theorem dX8_appendCharacter_13 : decode cX8_appendCharacter 13 = .ok (.aload_n 0, 1) := by decide +kernel
theorem dX8_appendCharacter_14 : decode cX8_appendCharacter 14 = .ok (.getfield 31, 3) := by decide +kernel
theorem dX8_appendCharacter_17 : decode cX8_appendCharacter 17 = .ok (.getfield 107, 3) := by decide +kernel
theorem dX8_appendCharacter_20 : decode cX8_appendCharacter 20 = .ok (.bipush 60, 2) := by decide +kernel
theorem dX8_appendCharacter_22 : decode cX8_appendCharacter 22 = .ok (.if_icmp .lt 6, 3) := by decide +kernel
theorem dX8_appendCharacter_25 : decode cX8_appendCharacter 25 = .ok (.bipush (-3), 2) := by decide +kernel
theorem dX8_appendCharacter_27 : decode cX8_appendCharacter 27 = .ok (.ireturn, 1) := by decide +kernel
theorem dX8_appendCharacter_28 : decode cX8_appendCharacter 28 = .ok (.aload_n 0, 1) := by decide +kernel
theorem dX8_appendCharacter_29 : decode cX8_appendCharacter 29 = .ok (.getfield 31, 3) := by decide +kernel
theorem dX8_appendCharacter_32 : decode cX8_appendCharacter 32 = .ok (.iload_n 1, 1) := by decide +kernel
theorem dX8_appendCharacter_33 : decode cX8_appendCharacter 33 = .ok (.invokevirtual 110, 3) := by decide +kernel
theorem dX8_appendCharacter_36 : decode cX8_appendCharacter 36 = .ok (.aload_n 0, 1) := by decide +kernel
theorem dX8_appendCharacter_37 : decode cX8_appendCharacter 37 = .ok (.getfield 31, 3) := by decide +kernel
theorem dX8_appendCharacter_40 : decode cX8_appendCharacter 40 = .ok (.getfield 107, 3) := by decide +kernel
theorem dX8_appendCharacter_43 : decode cX8_appendCharacter 43 = .ok (.ireturn, 1) := by decide +kernel
theorem dX8_clearText_0 : decode cX8_clearText 0 = .ok (.aload_n 0, 1) := by decide +kernel
theorem dX8_clearText_1 : decode cX8_clearText 1 = .ok (.getfield 31, 3) := by decide +kernel
theorem dX8_clearText_4 : decode cX8_clearText 4 = .ok (.getfield 107, 3) := by decide +kernel
theorem dX8_clearText_7 : decode cX8_clearText 7 = .ok (.istore_n 1, 1) := by decide +kernel
theorem dX8_clearText_8 : decode cX8_clearText 8 = .ok (.aload_n 0, 1) := by decide +kernel
theorem dX8_clearText_9 : decode cX8_clearText 9 = .ok (.getfield 31, 3) := by decide +kernel
theorem dX8_clearText_12 : decode cX8_clearText 12 = .ok (.iconst 0, 1) := by decide +kernel
theorem dX8_clearText_13 : decode cX8_clearText 13 = .ok (.putfield 107, 3) := by decide +kernel
theorem dX8_clearText_16 : decode cX8_clearText 16 = .ok (.iload_n 1, 1) := by decide +kernel
theorem dX8_clearText_17 : decode cX8_clearText 17 = .ok (.ireturn, 1) := by decide +kernel
theorem dX8_loadGraph_0 : decode cX8_loadGraph 0 = .ok (.aload_n 0, 1) := by decide +kernel
theorem dX8_loadGraph_1 : decode cX8_loadGraph 1 = .ok (.getfield 18, 3) := by decide +kernel
theorem dX8_loadGraph_4 : decode cX8_loadGraph 4 = .ok (.aload_n 0, 1) := by decide +kernel
theorem dX8_loadGraph_5 : decode cX8_loadGraph 5 = .ok (.getfield 12, 3) := by decide +kernel
theorem dX8_loadGraph_8 : decode cX8_loadGraph 8 = .ok (.getfield 70, 3) := by decide +kernel
theorem dX8_loadGraph_11 : decode cX8_loadGraph 11 = .ok (.invokevirtual 78, 3) := by decide +kernel
theorem dX8_loadGraph_14 : decode cX8_loadGraph 14 = .ok (.aload_n 0, 1) := by decide +kernel
theorem dX8_loadGraph_15 : decode cX8_loadGraph 15 = .ok (.getfield 31, 3) := by decide +kernel
theorem dX8_loadGraph_18 : decode cX8_loadGraph 18 = .ok (.aload_n 0, 1) := by decide +kernel
theorem dX8_loadGraph_19 : decode cX8_loadGraph 19 = .ok (.getfield 18, 3) := by decide +kernel
theorem dX8_loadGraph_22 : decode cX8_loadGraph 22 = .ok (.invokevirtual 112, 3) := by decide +kernel
theorem dX8_loadGraph_25 : decode cX8_loadGraph 25 = .ok (.istore_n 1, 1) := by decide +kernel
theorem dX8_loadGraph_26 : decode cX8_loadGraph 26 = .ok (.iload_n 1, 1) := by decide +kernel
theorem dX8_loadGraph_27 : decode cX8_loadGraph 27 = .ok (.iconst (-1), 1) := by decide +kernel
theorem dX8_loadGraph_28 : decode cX8_loadGraph 28 = .ok (.if_icmp .eq 8, 3) := by decide +kernel
theorem dX8_loadGraph_31 : decode cX8_loadGraph 31 = .ok (.bipush (-10), 2) := by decide +kernel
theorem dX8_loadGraph_33 : decode cX8_loadGraph 33 = .ok (.iload_n 1, 1) := by decide +kernel
theorem dX8_loadGraph_34 : decode cX8_loadGraph 34 = .ok (.isub, 1) := by decide +kernel
theorem dX8_loadGraph_35 : decode cX8_loadGraph 35 = .ok (.ireturn, 1) := by decide +kernel
theorem dX8_loadGraph_36 : decode cX8_loadGraph 36 = .ok (.aload_n 0, 1) := by decide +kernel
theorem dX8_loadGraph_37 : decode cX8_loadGraph 37 = .ok (.getfield 24, 3) := by decide +kernel
theorem dX8_loadGraph_40 : decode cX8_loadGraph 40 = .ok (.aload_n 0, 1) := by decide +kernel
theorem dX8_loadGraph_41 : decode cX8_loadGraph 41 = .ok (.getfield 12, 3) := by decide +kernel
theorem dX8_loadGraph_44 : decode cX8_loadGraph 44 = .ok (.invokevirtual 74, 3) := by decide +kernel
theorem dX8_loadGraph_47 : decode cX8_loadGraph 47 = .ok (.aload_n 0, 1) := by decide +kernel
theorem dX8_loadGraph_48 : decode cX8_loadGraph 48 = .ok (.getfield 12, 3) := by decide +kernel
theorem dX8_loadGraph_51 : decode cX8_loadGraph 51 = .ok (.aload_n 0, 1) := by decide +kernel
theorem dX8_loadGraph_52 : decode cX8_loadGraph 52 = .ok (.getfield 18, 3) := by decide +kernel
theorem dX8_loadGraph_55 : decode cX8_loadGraph 55 = .ok (.invokevirtual 116, 3) := by decide +kernel
theorem dX8_loadGraph_58 : decode cX8_loadGraph 58 = .ok (.aload_n 0, 1) := by decide +kernel
theorem dX8_loadGraph_59 : decode cX8_loadGraph 59 = .ok (.getfield 31, 3) := by decide +kernel
theorem dX8_loadGraph_62 : decode cX8_loadGraph 62 = .ok (.iconst 0, 1) := by decide +kernel
theorem dX8_loadGraph_63 : decode cX8_loadGraph 63 = .ok (.putfield 107, 3) := by decide +kernel
theorem dX8_loadGraph_66 : decode cX8_loadGraph 66 = .ok (.aload_n 0, 1) := by decide +kernel
theorem dX8_loadGraph_67 : decode cX8_loadGraph 67 = .ok (.getfield 12, 3) := by decide +kernel
theorem dX8_loadGraph_70 : decode cX8_loadGraph 70 = .ok (.getfield 94, 3) := by decide +kernel
theorem dX8_loadGraph_73 : decode cX8_loadGraph 73 = .ok (.ireturn, 1) := by decide +kernel
theorem dX8_undo_0 : decode cX8_undo 0 = .ok (.aload_n 0, 1) := by decide +kernel
theorem dX8_undo_1 : decode cX8_undo 1 = .ok (.getfield 24, 3) := by decide +kernel
theorem dX8_undo_4 : decode cX8_undo 4 = .ok (.getfield 119, 3) := by decide +kernel
theorem dX8_undo_7 : decode cX8_undo 7 = .ok (.ifCond .ne 6, 3) := by decide +kernel
theorem dX8_undo_10 : decode cX8_undo 10 = .ok (.bipush (-2), 2) := by decide +kernel
theorem dX8_undo_12 : decode cX8_undo 12 = .ok (.ireturn, 1) := by decide +kernel
theorem dX8_undo_13 : decode cX8_undo 13 = .ok (.aload_n 0, 1) := by decide +kernel
theorem dX8_undo_14 : decode cX8_undo 14 = .ok (.getfield 24, 3) := by decide +kernel
theorem dX8_undo_17 : decode cX8_undo 17 = .ok (.aload_n 0, 1) := by decide +kernel
theorem dX8_undo_18 : decode cX8_undo 18 = .ok (.getfield 12, 3) := by decide +kernel
theorem dX8_undo_21 : decode cX8_undo 21 = .ok (.invokevirtual 122, 3) := by decide +kernel
theorem dX8_undo_24 : decode cX8_undo 24 = .ok (.aload_n 0, 1) := by decide +kernel
theorem dX8_undo_25 : decode cX8_undo 25 = .ok (.getfield 24, 3) := by decide +kernel
theorem dX8_undo_28 : decode cX8_undo 28 = .ok (.getfield 119, 3) := by decide +kernel
theorem dX8_undo_31 : decode cX8_undo 31 = .ok (.ireturn, 1) := by decide +kernel
theorem dX8_vertexCount_0 : decode cX8_vertexCount 0 = .ok (.aload_n 0, 1) := by decide +kernel
theorem dX8_vertexCount_1 : decode cX8_vertexCount 1 = .ok (.getfield 12, 3) := by decide +kernel
theorem dX8_vertexCount_4 : decode cX8_vertexCount 4 = .ok (.getfield 70, 3) := by decide +kernel
theorem dX8_vertexCount_7 : decode cX8_vertexCount 7 = .ok (.ireturn, 1) := by decide +kernel
theorem dX8_edgeCount_0 : decode cX8_edgeCount 0 = .ok (.aload_n 0, 1) := by decide +kernel
theorem dX8_edgeCount_1 : decode cX8_edgeCount 1 = .ok (.getfield 12, 3) := by decide +kernel
theorem dX8_edgeCount_4 : decode cX8_edgeCount 4 = .ok (.getfield 94, 3) := by decide +kernel
theorem dX8_edgeCount_7 : decode cX8_edgeCount 7 = .ok (.ireturn, 1) := by decide +kernel
theorem dX8_headOf_0 : decode cX8_headOf 0 = .ok (.aload_n 0, 1) := by decide +kernel
theorem dX8_headOf_1 : decode cX8_headOf 1 = .ok (.getfield 12, 3) := by decide +kernel
theorem dX8_headOf_4 : decode cX8_headOf 4 = .ok (.iload_n 1, 1) := by decide +kernel
theorem dX8_headOf_5 : decode cX8_headOf 5 = .ok (.invokevirtual 125, 3) := by decide +kernel
theorem dX8_headOf_8 : decode cX8_headOf 8 = .ok (.ifCond .ne 5, 3) := by decide +kernel
theorem dX8_headOf_11 : decode cX8_headOf 11 = .ok (.iconst (-1), 1) := by decide +kernel
theorem dX8_headOf_12 : decode cX8_headOf 12 = .ok (.ireturn, 1) := by decide +kernel
theorem dX8_headOf_13 : decode cX8_headOf 13 = .ok (.aload_n 0, 1) := by decide +kernel
theorem dX8_headOf_14 : decode cX8_headOf 14 = .ok (.getfield 12, 3) := by decide +kernel
theorem dX8_headOf_17 : decode cX8_headOf 17 = .ok (.iload_n 1, 1) := by decide +kernel
theorem dX8_headOf_18 : decode cX8_headOf 18 = .ok (.invokevirtual 128, 3) := by decide +kernel
theorem dX8_headOf_21 : decode cX8_headOf 21 = .ok (.ireturn, 1) := by decide +kernel
theorem dX8_follows_0 : decode cX8_follows 0 = .ok (.aload_n 0, 1) := by decide +kernel
theorem dX8_follows_1 : decode cX8_follows 1 = .ok (.getfield 12, 3) := by decide +kernel
theorem dX8_follows_4 : decode cX8_follows 4 = .ok (.iload_n 1, 1) := by decide +kernel
theorem dX8_follows_5 : decode cX8_follows 5 = .ok (.invokevirtual 125, 3) := by decide +kernel
theorem dX8_follows_8 : decode cX8_follows 8 = .ok (.ifCond .eq 14, 3) := by decide +kernel
theorem dX8_follows_11 : decode cX8_follows 11 = .ok (.aload_n 0, 1) := by decide +kernel
theorem dX8_follows_12 : decode cX8_follows 12 = .ok (.getfield 12, 3) := by decide +kernel
theorem dX8_follows_15 : decode cX8_follows 15 = .ok (.iload_n 2, 1) := by decide +kernel
theorem dX8_follows_16 : decode cX8_follows 16 = .ok (.invokevirtual 125, 3) := by decide +kernel
theorem dX8_follows_19 : decode cX8_follows 19 = .ok (.ifCond .ne 5, 3) := by decide +kernel
theorem dX8_follows_22 : decode cX8_follows 22 = .ok (.iconst (-1), 1) := by decide +kernel
theorem dX8_follows_23 : decode cX8_follows 23 = .ok (.ireturn, 1) := by decide +kernel
theorem dX8_follows_24 : decode cX8_follows 24 = .ok (.aload_n 0, 1) := by decide +kernel
theorem dX8_follows_25 : decode cX8_follows 25 = .ok (.getfield 12, 3) := by decide +kernel
theorem dX8_follows_28 : decode cX8_follows 28 = .ok (.iload_n 1, 1) := by decide +kernel
theorem dX8_follows_29 : decode cX8_follows 29 = .ok (.iload_n 2, 1) := by decide +kernel
theorem dX8_follows_30 : decode cX8_follows 30 = .ok (.invokevirtual 132, 3) := by decide +kernel
theorem dX8_follows_33 : decode cX8_follows 33 = .ok (.ifCond .eq 7, 3) := by decide +kernel
theorem dX8_follows_36 : decode cX8_follows 36 = .ok (.iconst 1, 1) := by decide +kernel
theorem dX8_follows_37 : decode cX8_follows 37 = .ok (.goto 4, 3) := by decide +kernel
theorem dX8_follows_40 : decode cX8_follows 40 = .ok (.iconst 0, 1) := by decide +kernel
theorem dX8_follows_41 : decode cX8_follows 41 = .ok (.ireturn, 1) := by decide +kernel
theorem dX8_degree_0 : decode cX8_degree 0 = .ok (.aload_n 0, 1) := by decide +kernel
theorem dX8_degree_1 : decode cX8_degree 1 = .ok (.getfield 12, 3) := by decide +kernel
theorem dX8_degree_4 : decode cX8_degree 4 = .ok (.iload_n 1, 1) := by decide +kernel
theorem dX8_degree_5 : decode cX8_degree 5 = .ok (.invokevirtual 82, 3) := by decide +kernel
theorem dX8_degree_8 : decode cX8_degree 8 = .ok (.ifCond .ne 5, 3) := by decide +kernel
theorem dX8_degree_11 : decode cX8_degree 11 = .ok (.iconst (-1), 1) := by decide +kernel
theorem dX8_degree_12 : decode cX8_degree 12 = .ok (.ireturn, 1) := by decide +kernel
theorem dX8_degree_13 : decode cX8_degree 13 = .ok (.aload_n 0, 1) := by decide +kernel
theorem dX8_degree_14 : decode cX8_degree 14 = .ok (.getfield 12, 3) := by decide +kernel
theorem dX8_degree_17 : decode cX8_degree 17 = .ok (.iload_n 1, 1) := by decide +kernel
theorem dX8_degree_18 : decode cX8_degree 18 = .ok (.invokevirtual 136, 3) := by decide +kernel
theorem dX8_degree_21 : decode cX8_degree 21 = .ok (.ireturn, 1) := by decide +kernel
theorem dX8_components_0 : decode cX8_components 0 = .ok (.aload_n 0, 1) := by decide +kernel
theorem dX8_components_1 : decode cX8_components 1 = .ok (.getfield 38, 3) := by decide +kernel
theorem dX8_components_4 : decode cX8_components 4 = .ok (.aload_n 0, 1) := by decide +kernel
theorem dX8_components_5 : decode cX8_components 5 = .ok (.getfield 12, 3) := by decide +kernel
theorem dX8_components_8 : decode cX8_components 8 = .ok (.invokevirtual 139, 3) := by decide +kernel
theorem dX8_components_11 : decode cX8_components 11 = .ok (.ireturn, 1) := by decide +kernel
theorem dX8_rank_0 : decode cX8_rank 0 = .ok (.aload_n 0, 1) := by decide +kernel
theorem dX8_rank_1 : decode cX8_rank 1 = .ok (.getfield 12, 3) := by decide +kernel
theorem dX8_rank_4 : decode cX8_rank 4 = .ok (.getfield 94, 3) := by decide +kernel
theorem dX8_rank_7 : decode cX8_rank 7 = .ok (.aload_n 0, 1) := by decide +kernel
theorem dX8_rank_8 : decode cX8_rank 8 = .ok (.getfield 12, 3) := by decide +kernel
theorem dX8_rank_11 : decode cX8_rank 11 = .ok (.getfield 70, 3) := by decide +kernel
theorem dX8_rank_14 : decode cX8_rank 14 = .ok (.isub, 1) := by decide +kernel
theorem dX8_rank_15 : decode cX8_rank 15 = .ok (.aload_n 0, 1) := by decide +kernel
theorem dX8_rank_16 : decode cX8_rank 16 = .ok (.getfield 38, 3) := by decide +kernel
theorem dX8_rank_19 : decode cX8_rank 19 = .ok (.aload_n 0, 1) := by decide +kernel
theorem dX8_rank_20 : decode cX8_rank 20 = .ok (.getfield 12, 3) := by decide +kernel
theorem dX8_rank_23 : decode cX8_rank 23 = .ok (.invokevirtual 139, 3) := by decide +kernel
theorem dX8_rank_26 : decode cX8_rank 26 = .ok (.iadd, 1) := by decide +kernel
theorem dX8_rank_27 : decode cX8_rank 27 = .ok (.ireturn, 1) := by decide +kernel
theorem dX8_isBalanced_0 : decode cX8_isBalanced 0 = .ok (.aload_n 0, 1) := by decide +kernel
theorem dX8_isBalanced_1 : decode cX8_isBalanced 1 = .ok (.getfield 38, 3) := by decide +kernel
theorem dX8_isBalanced_4 : decode cX8_isBalanced 4 = .ok (.aload_n 0, 1) := by decide +kernel
theorem dX8_isBalanced_5 : decode cX8_isBalanced 5 = .ok (.getfield 12, 3) := by decide +kernel
theorem dX8_isBalanced_8 : decode cX8_isBalanced 8 = .ok (.invokevirtual 142, 3) := by decide +kernel
theorem dX8_isBalanced_11 : decode cX8_isBalanced 11 = .ok (.ifCond .eq 7, 3) := by decide +kernel
theorem dX8_isBalanced_14 : decode cX8_isBalanced 14 = .ok (.iconst 1, 1) := by decide +kernel
theorem dX8_isBalanced_15 : decode cX8_isBalanced 15 = .ok (.goto 4, 3) := by decide +kernel
theorem dX8_isBalanced_18 : decode cX8_isBalanced 18 = .ok (.iconst 0, 1) := by decide +kernel
theorem dX8_isBalanced_19 : decode cX8_isBalanced 19 = .ok (.ireturn, 1) := by decide +kernel
theorem dX8_walks_0 : decode cX8_walks 0 = .ok (.iload_n 1, 1) := by decide +kernel
theorem dX8_walks_1 : decode cX8_walks 1 = .ok (.invokestatic 146, 3) := by decide +kernel
theorem dX8_walks_4 : decode cX8_walks 4 = .ok (.ifCond .ne 7, 3) := by decide +kernel
theorem dX8_walks_7 : decode cX8_walks 7 = .ok (.ldc2_w 149, 3) := by decide +kernel
theorem dX8_walks_10 : decode cX8_walks 10 = .ok (.lreturn, 1) := by decide +kernel
theorem dX8_walks_11 : decode cX8_walks 11 = .ok (.aload_n 0, 1) := by decide +kernel
theorem dX8_walks_12 : decode cX8_walks 12 = .ok (.getfield 45, 3) := by decide +kernel
theorem dX8_walks_15 : decode cX8_walks 15 = .ok (.aload_n 0, 1) := by decide +kernel
theorem dX8_walks_16 : decode cX8_walks 16 = .ok (.getfield 12, 3) := by decide +kernel
theorem dX8_walks_19 : decode cX8_walks 19 = .ok (.invokevirtual 151, 3) := by decide +kernel
theorem dX8_walks_22 : decode cX8_walks 22 = .ok (.aload_n 0, 1) := by decide +kernel
theorem dX8_walks_23 : decode cX8_walks 23 = .ok (.getfield 45, 3) := by decide +kernel
theorem dX8_walks_26 : decode cX8_walks 26 = .ok (.getfield 154, 3) := by decide +kernel
theorem dX8_walks_29 : decode cX8_walks 29 = .ok (.iload_n 1, 1) := by decide +kernel
theorem dX8_walks_30 : decode cX8_walks 30 = .ok (.laload, 1) := by decide +kernel
theorem dX8_walks_31 : decode cX8_walks 31 = .ok (.lreturn, 1) := by decide +kernel
theorem dX8_signedWalks_0 : decode cX8_signedWalks 0 = .ok (.iload_n 1, 1) := by decide +kernel
theorem dX8_signedWalks_1 : decode cX8_signedWalks 1 = .ok (.invokestatic 146, 3) := by decide +kernel
theorem dX8_signedWalks_4 : decode cX8_signedWalks 4 = .ok (.ifCond .ne 7, 3) := by decide +kernel
theorem dX8_signedWalks_7 : decode cX8_signedWalks 7 = .ok (.ldc2_w 149, 3) := by decide +kernel
theorem dX8_signedWalks_10 : decode cX8_signedWalks 10 = .ok (.lreturn, 1) := by decide +kernel
theorem dX8_signedWalks_11 : decode cX8_signedWalks 11 = .ok (.aload_n 0, 1) := by decide +kernel
theorem dX8_signedWalks_12 : decode cX8_signedWalks 12 = .ok (.getfield 45, 3) := by decide +kernel
theorem dX8_signedWalks_15 : decode cX8_signedWalks 15 = .ok (.aload_n 0, 1) := by decide +kernel
theorem dX8_signedWalks_16 : decode cX8_signedWalks 16 = .ok (.getfield 12, 3) := by decide +kernel
theorem dX8_signedWalks_19 : decode cX8_signedWalks 19 = .ok (.invokevirtual 158, 3) := by decide +kernel
theorem dX8_signedWalks_22 : decode cX8_signedWalks 22 = .ok (.aload_n 0, 1) := by decide +kernel
theorem dX8_signedWalks_23 : decode cX8_signedWalks 23 = .ok (.getfield 45, 3) := by decide +kernel
theorem dX8_signedWalks_26 : decode cX8_signedWalks 26 = .ok (.getfield 161, 3) := by decide +kernel
theorem dX8_signedWalks_29 : decode cX8_signedWalks 29 = .ok (.iload_n 1, 1) := by decide +kernel
theorem dX8_signedWalks_30 : decode cX8_signedWalks 30 = .ok (.laload, 1) := by decide +kernel
theorem dX8_signedWalks_31 : decode cX8_signedWalks 31 = .ok (.lreturn, 1) := by decide +kernel
theorem dX8_coverWalks_0 : decode cX8_coverWalks 0 = .ok (.iload_n 1, 1) := by decide +kernel
theorem dX8_coverWalks_1 : decode cX8_coverWalks 1 = .ok (.invokestatic 146, 3) := by decide +kernel
theorem dX8_coverWalks_4 : decode cX8_coverWalks 4 = .ok (.ifCond .ne 7, 3) := by decide +kernel
theorem dX8_coverWalks_7 : decode cX8_coverWalks 7 = .ok (.ldc2_w 149, 3) := by decide +kernel
theorem dX8_coverWalks_10 : decode cX8_coverWalks 10 = .ok (.lreturn, 1) := by decide +kernel
theorem dX8_coverWalks_11 : decode cX8_coverWalks 11 = .ok (.aload_n 0, 1) := by decide +kernel
theorem dX8_coverWalks_12 : decode cX8_coverWalks 12 = .ok (.getfield 45, 3) := by decide +kernel
theorem dX8_coverWalks_15 : decode cX8_coverWalks 15 = .ok (.aload_n 0, 1) := by decide +kernel
theorem dX8_coverWalks_16 : decode cX8_coverWalks 16 = .ok (.getfield 12, 3) := by decide +kernel
theorem dX8_coverWalks_19 : decode cX8_coverWalks 19 = .ok (.invokevirtual 151, 3) := by decide +kernel
theorem dX8_coverWalks_22 : decode cX8_coverWalks 22 = .ok (.aload_n 0, 1) := by decide +kernel
theorem dX8_coverWalks_23 : decode cX8_coverWalks 23 = .ok (.getfield 45, 3) := by decide +kernel
theorem dX8_coverWalks_26 : decode cX8_coverWalks 26 = .ok (.aload_n 0, 1) := by decide +kernel
theorem dX8_coverWalks_27 : decode cX8_coverWalks 27 = .ok (.getfield 12, 3) := by decide +kernel
theorem dX8_coverWalks_30 : decode cX8_coverWalks 30 = .ok (.invokevirtual 158, 3) := by decide +kernel
theorem dX8_coverWalks_33 : decode cX8_coverWalks 33 = .ok (.aload_n 0, 1) := by decide +kernel
theorem dX8_coverWalks_34 : decode cX8_coverWalks 34 = .ok (.getfield 45, 3) := by decide +kernel
theorem dX8_coverWalks_37 : decode cX8_coverWalks 37 = .ok (.getfield 154, 3) := by decide +kernel
theorem dX8_coverWalks_40 : decode cX8_coverWalks 40 = .ok (.iload_n 1, 1) := by decide +kernel
theorem dX8_coverWalks_41 : decode cX8_coverWalks 41 = .ok (.laload, 1) := by decide +kernel
theorem dX8_coverWalks_42 : decode cX8_coverWalks 42 = .ok (.aload_n 0, 1) := by decide +kernel
theorem dX8_coverWalks_43 : decode cX8_coverWalks 43 = .ok (.getfield 45, 3) := by decide +kernel
theorem dX8_coverWalks_46 : decode cX8_coverWalks 46 = .ok (.getfield 161, 3) := by decide +kernel
theorem dX8_coverWalks_49 : decode cX8_coverWalks 49 = .ok (.iload_n 1, 1) := by decide +kernel
theorem dX8_coverWalks_50 : decode cX8_coverWalks 50 = .ok (.laload, 1) := by decide +kernel
theorem dX8_coverWalks_51 : decode cX8_coverWalks 51 = .ok (.ladd, 1) := by decide +kernel
theorem dX8_coverWalks_52 : decode cX8_coverWalks 52 = .ok (.lreturn, 1) := by decide +kernel
theorem dX8_primes_0 : decode cX8_primes 0 = .ok (.iload_n 1, 1) := by decide +kernel
theorem dX8_primes_1 : decode cX8_primes 1 = .ok (.invokestatic 146, 3) := by decide +kernel
theorem dX8_primes_4 : decode cX8_primes 4 = .ok (.ifCond .ne 7, 3) := by decide +kernel
theorem dX8_primes_7 : decode cX8_primes 7 = .ok (.ldc2_w 149, 3) := by decide +kernel
theorem dX8_primes_10 : decode cX8_primes 10 = .ok (.lreturn, 1) := by decide +kernel
theorem dX8_primes_11 : decode cX8_primes 11 = .ok (.aload_n 0, 1) := by decide +kernel
theorem dX8_primes_12 : decode cX8_primes 12 = .ok (.getfield 45, 3) := by decide +kernel
theorem dX8_primes_15 : decode cX8_primes 15 = .ok (.aload_n 0, 1) := by decide +kernel
theorem dX8_primes_16 : decode cX8_primes 16 = .ok (.getfield 12, 3) := by decide +kernel
theorem dX8_primes_19 : decode cX8_primes 19 = .ok (.invokevirtual 164, 3) := by decide +kernel
theorem dX8_primes_22 : decode cX8_primes 22 = .ok (.aload_n 0, 1) := by decide +kernel
theorem dX8_primes_23 : decode cX8_primes 23 = .ok (.getfield 45, 3) := by decide +kernel
theorem dX8_primes_26 : decode cX8_primes 26 = .ok (.getfield 167, 3) := by decide +kernel
theorem dX8_primes_29 : decode cX8_primes 29 = .ok (.iload_n 1, 1) := by decide +kernel
theorem dX8_primes_30 : decode cX8_primes 30 = .ok (.laload, 1) := by decide +kernel
theorem dX8_primes_31 : decode cX8_primes 31 = .ok (.iload_n 1, 1) := by decide +kernel
theorem dX8_primes_32 : decode cX8_primes 32 = .ok (.i2l, 1) := by decide +kernel
theorem dX8_primes_33 : decode cX8_primes 33 = .ok (.ldiv, 1) := by decide +kernel
theorem dX8_primes_34 : decode cX8_primes 34 = .ok (.lreturn, 1) := by decide +kernel
theorem dX8_positivePrimes_0 : decode cX8_positivePrimes 0 = .ok (.iload_n 1, 1) := by decide +kernel
theorem dX8_positivePrimes_1 : decode cX8_positivePrimes 1 = .ok (.invokestatic 146, 3) := by decide +kernel
theorem dX8_positivePrimes_4 : decode cX8_positivePrimes 4 = .ok (.ifCond .ne 7, 3) := by decide +kernel
theorem dX8_positivePrimes_7 : decode cX8_positivePrimes 7 = .ok (.ldc2_w 149, 3) := by decide +kernel
theorem dX8_positivePrimes_10 : decode cX8_positivePrimes 10 = .ok (.lreturn, 1) := by decide +kernel
theorem dX8_positivePrimes_11 : decode cX8_positivePrimes 11 = .ok (.aload_n 0, 1) := by decide +kernel
theorem dX8_positivePrimes_12 : decode cX8_positivePrimes 12 = .ok (.getfield 45, 3) := by decide +kernel
theorem dX8_positivePrimes_15 : decode cX8_positivePrimes 15 = .ok (.aload_n 0, 1) := by decide +kernel
theorem dX8_positivePrimes_16 : decode cX8_positivePrimes 16 = .ok (.getfield 12, 3) := by decide +kernel
theorem dX8_positivePrimes_19 : decode cX8_positivePrimes 19 = .ok (.invokevirtual 170, 3) := by decide +kernel
theorem dX8_positivePrimes_22 : decode cX8_positivePrimes 22 = .ok (.aload_n 0, 1) := by decide +kernel
theorem dX8_positivePrimes_23 : decode cX8_positivePrimes 23 = .ok (.getfield 45, 3) := by decide +kernel
theorem dX8_positivePrimes_26 : decode cX8_positivePrimes 26 = .ok (.getfield 167, 3) := by decide +kernel
theorem dX8_positivePrimes_29 : decode cX8_positivePrimes 29 = .ok (.iload_n 1, 1) := by decide +kernel
theorem dX8_positivePrimes_30 : decode cX8_positivePrimes 30 = .ok (.laload, 1) := by decide +kernel
theorem dX8_positivePrimes_31 : decode cX8_positivePrimes 31 = .ok (.aload_n 0, 1) := by decide +kernel
theorem dX8_positivePrimes_32 : decode cX8_positivePrimes 32 = .ok (.getfield 45, 3) := by decide +kernel
theorem dX8_positivePrimes_35 : decode cX8_positivePrimes 35 = .ok (.getfield 173, 3) := by decide +kernel
theorem dX8_positivePrimes_38 : decode cX8_positivePrimes 38 = .ok (.iload_n 1, 1) := by decide +kernel
theorem dX8_positivePrimes_39 : decode cX8_positivePrimes 39 = .ok (.laload, 1) := by decide +kernel
theorem dX8_positivePrimes_40 : decode cX8_positivePrimes 40 = .ok (.ladd, 1) := by decide +kernel
theorem dX8_positivePrimes_41 : decode cX8_positivePrimes 41 = .ok (.ldc2_w 176, 3) := by decide +kernel
theorem dX8_positivePrimes_44 : decode cX8_positivePrimes 44 = .ok (.ldiv, 1) := by decide +kernel
theorem dX8_positivePrimes_45 : decode cX8_positivePrimes 45 = .ok (.lstore_n 2, 1) := by decide +kernel
theorem dX8_positivePrimes_46 : decode cX8_positivePrimes 46 = .ok (.lload_n 2, 1) := by decide +kernel
theorem dX8_positivePrimes_47 : decode cX8_positivePrimes 47 = .ok (.iload_n 1, 1) := by decide +kernel
theorem dX8_positivePrimes_48 : decode cX8_positivePrimes 48 = .ok (.i2l, 1) := by decide +kernel
theorem dX8_positivePrimes_49 : decode cX8_positivePrimes 49 = .ok (.ldiv, 1) := by decide +kernel
theorem dX8_positivePrimes_50 : decode cX8_positivePrimes 50 = .ok (.lreturn, 1) := by decide +kernel
theorem dX8_girth_0 : decode cX8_girth 0 = .ok (.aload_n 0, 1) := by decide +kernel
theorem dX8_girth_1 : decode cX8_girth 1 = .ok (.getfield 45, 3) := by decide +kernel
theorem dX8_girth_4 : decode cX8_girth 4 = .ok (.aload_n 0, 1) := by decide +kernel
theorem dX8_girth_5 : decode cX8_girth 5 = .ok (.getfield 12, 3) := by decide +kernel
theorem dX8_girth_8 : decode cX8_girth 8 = .ok (.invokevirtual 164, 3) := by decide +kernel
theorem dX8_girth_11 : decode cX8_girth 11 = .ok (.iconst 1, 1) := by decide +kernel
theorem dX8_girth_12 : decode cX8_girth 12 = .ok (.istore_n 1, 1) := by decide +kernel
theorem dX8_girth_13 : decode cX8_girth 13 = .ok (.iload_n 1, 1) := by decide +kernel
theorem dX8_girth_14 : decode cX8_girth 14 = .ok (.bipush 18, 2) := by decide +kernel
theorem dX8_girth_16 : decode cX8_girth 16 = .ok (.if_icmp .gt 25, 3) := by decide +kernel
theorem dX8_girth_19 : decode cX8_girth 19 = .ok (.aload_n 0, 1) := by decide +kernel
theorem dX8_girth_20 : decode cX8_girth 20 = .ok (.getfield 45, 3) := by decide +kernel
theorem dX8_girth_23 : decode cX8_girth 23 = .ok (.getfield 167, 3) := by decide +kernel
theorem dX8_girth_26 : decode cX8_girth 26 = .ok (.iload_n 1, 1) := by decide +kernel
theorem dX8_girth_27 : decode cX8_girth 27 = .ok (.laload, 1) := by decide +kernel
theorem dX8_girth_28 : decode cX8_girth 28 = .ok (.lconst 0, 1) := by decide +kernel
theorem dX8_girth_29 : decode cX8_girth 29 = .ok (.lcmp, 1) := by decide +kernel
theorem dX8_girth_30 : decode cX8_girth 30 = .ok (.ifCond .eq 5, 3) := by decide +kernel
theorem dX8_girth_33 : decode cX8_girth 33 = .ok (.iload_n 1, 1) := by decide +kernel
theorem dX8_girth_34 : decode cX8_girth 34 = .ok (.ireturn, 1) := by decide +kernel
theorem dX8_girth_35 : decode cX8_girth 35 = .ok (.iinc 1 1, 3) := by decide +kernel
theorem dX8_girth_38 : decode cX8_girth 38 = .ok (.goto (-25), 3) := by decide +kernel
theorem dX8_girth_41 : decode cX8_girth 41 = .ok (.bipush (-9), 2) := by decide +kernel
theorem dX8_girth_43 : decode cX8_girth 43 = .ok (.ireturn, 1) := by decide +kernel
theorem dX8_period_0 : decode cX8_period 0 = .ok (.aload_n 0, 1) := by decide +kernel
theorem dX8_period_1 : decode cX8_period 1 = .ok (.getfield 45, 3) := by decide +kernel
theorem dX8_period_4 : decode cX8_period 4 = .ok (.aload_n 0, 1) := by decide +kernel
theorem dX8_period_5 : decode cX8_period 5 = .ok (.getfield 12, 3) := by decide +kernel
theorem dX8_period_8 : decode cX8_period 8 = .ok (.invokevirtual 164, 3) := by decide +kernel
theorem dX8_period_11 : decode cX8_period 11 = .ok (.iconst 0, 1) := by decide +kernel
theorem dX8_period_12 : decode cX8_period 12 = .ok (.istore_n 1, 1) := by decide +kernel
theorem dX8_period_13 : decode cX8_period 13 = .ok (.iconst 1, 1) := by decide +kernel
theorem dX8_period_14 : decode cX8_period 14 = .ok (.istore_n 2, 1) := by decide +kernel
theorem dX8_period_15 : decode cX8_period 15 = .ok (.iload_n 2, 1) := by decide +kernel
theorem dX8_period_16 : decode cX8_period 16 = .ok (.bipush 18, 2) := by decide +kernel
theorem dX8_period_18 : decode cX8_period 18 = .ok (.if_icmp .gt 29, 3) := by decide +kernel
theorem dX8_period_21 : decode cX8_period 21 = .ok (.aload_n 0, 1) := by decide +kernel
theorem dX8_period_22 : decode cX8_period 22 = .ok (.getfield 45, 3) := by decide +kernel
theorem dX8_period_25 : decode cX8_period 25 = .ok (.getfield 167, 3) := by decide +kernel
theorem dX8_period_28 : decode cX8_period 28 = .ok (.iload_n 2, 1) := by decide +kernel
theorem dX8_period_29 : decode cX8_period 29 = .ok (.laload, 1) := by decide +kernel
theorem dX8_period_30 : decode cX8_period 30 = .ok (.lconst 0, 1) := by decide +kernel
theorem dX8_period_31 : decode cX8_period 31 = .ok (.lcmp, 1) := by decide +kernel
theorem dX8_period_32 : decode cX8_period 32 = .ok (.ifCond .eq 9, 3) := by decide +kernel
theorem dX8_period_35 : decode cX8_period 35 = .ok (.iload_n 2, 1) := by decide +kernel
theorem dX8_period_36 : decode cX8_period 36 = .ok (.iload_n 1, 1) := by decide +kernel
theorem dX8_period_37 : decode cX8_period 37 = .ok (.invokestatic 178, 3) := by decide +kernel
theorem dX8_period_40 : decode cX8_period 40 = .ok (.istore_n 1, 1) := by decide +kernel
theorem dX8_period_41 : decode cX8_period 41 = .ok (.iinc 2 1, 3) := by decide +kernel
theorem dX8_period_44 : decode cX8_period 44 = .ok (.goto (-29), 3) := by decide +kernel
theorem dX8_period_47 : decode cX8_period 47 = .ok (.iload_n 1, 1) := by decide +kernel
theorem dX8_period_48 : decode cX8_period 48 = .ok (.ifCond .ne 8, 3) := by decide +kernel
theorem dX8_period_51 : decode cX8_period 51 = .ok (.bipush (-9), 2) := by decide +kernel
theorem dX8_period_53 : decode cX8_period 53 = .ok (.goto 4, 3) := by decide +kernel
theorem dX8_period_56 : decode cX8_period 56 = .ok (.iload_n 1, 1) := by decide +kernel
theorem dX8_period_57 : decode cX8_period 57 = .ok (.ireturn, 1) := by decide +kernel
theorem dX8_primeEdge_0 : decode cX8_primeEdge 0 = .ok (.iload_n 1, 1) := by decide +kernel
theorem dX8_primeEdge_1 : decode cX8_primeEdge 1 = .ok (.invokestatic 182, 3) := by decide +kernel
theorem dX8_primeEdge_4 : decode cX8_primeEdge 4 = .ok (.ifCond .eq 16, 3) := by decide +kernel
theorem dX8_primeEdge_7 : decode cX8_primeEdge 7 = .ok (.iload_n 2, 1) := by decide +kernel
theorem dX8_primeEdge_8 : decode cX8_primeEdge 8 = .ok (.ifCond .lt 12, 3) := by decide +kernel
theorem dX8_primeEdge_11 : decode cX8_primeEdge 11 = .ok (.iload_n 3, 1) := by decide +kernel
theorem dX8_primeEdge_12 : decode cX8_primeEdge 12 = .ok (.ifCond .lt 8, 3) := by decide +kernel
theorem dX8_primeEdge_15 : decode cX8_primeEdge 15 = .ok (.iload_n 3, 1) := by decide +kernel
theorem dX8_primeEdge_16 : decode cX8_primeEdge 16 = .ok (.iload_n 1, 1) := by decide +kernel
theorem dX8_primeEdge_17 : decode cX8_primeEdge 17 = .ok (.if_icmp .lt 5, 3) := by decide +kernel
theorem dX8_primeEdge_20 : decode cX8_primeEdge 20 = .ok (.iconst (-1), 1) := by decide +kernel
theorem dX8_primeEdge_21 : decode cX8_primeEdge 21 = .ok (.ireturn, 1) := by decide +kernel
theorem dX8_primeEdge_22 : decode cX8_primeEdge 22 = .ok (.aload_n 0, 1) := by decide +kernel
theorem dX8_primeEdge_23 : decode cX8_primeEdge 23 = .ok (.getfield 52, 3) := by decide +kernel
theorem dX8_primeEdge_26 : decode cX8_primeEdge 26 = .ok (.aload_n 0, 1) := by decide +kernel
theorem dX8_primeEdge_27 : decode cX8_primeEdge 27 = .ok (.getfield 12, 3) := by decide +kernel
theorem dX8_primeEdge_30 : decode cX8_primeEdge 30 = .ok (.iload_n 1, 1) := by decide +kernel
theorem dX8_primeEdge_31 : decode cX8_primeEdge 31 = .ok (.iload_n 2, 1) := by decide +kernel
theorem dX8_primeEdge_32 : decode cX8_primeEdge 32 = .ok (.invokevirtual 185, 3) := by decide +kernel
theorem dX8_primeEdge_35 : decode cX8_primeEdge 35 = .ok (.ifCond .ne 6, 3) := by decide +kernel
theorem dX8_primeEdge_38 : decode cX8_primeEdge 38 = .ok (.bipush (-9), 2) := by decide +kernel
theorem dX8_primeEdge_40 : decode cX8_primeEdge 40 = .ok (.ireturn, 1) := by decide +kernel
theorem dX8_primeEdge_41 : decode cX8_primeEdge 41 = .ok (.aload_n 0, 1) := by decide +kernel
theorem dX8_primeEdge_42 : decode cX8_primeEdge 42 = .ok (.getfield 52, 3) := by decide +kernel
theorem dX8_primeEdge_45 : decode cX8_primeEdge 45 = .ok (.getfield 189, 3) := by decide +kernel
theorem dX8_primeEdge_48 : decode cX8_primeEdge 48 = .ok (.iload_n 3, 1) := by decide +kernel
theorem dX8_primeEdge_49 : decode cX8_primeEdge 49 = .ok (.iaload, 1) := by decide +kernel
theorem dX8_primeEdge_50 : decode cX8_primeEdge 50 = .ok (.ireturn, 1) := by decide +kernel
theorem dX8_primeSign_0 : decode cX8_primeSign 0 = .ok (.iload_n 1, 1) := by decide +kernel
theorem dX8_primeSign_1 : decode cX8_primeSign 1 = .ok (.invokestatic 182, 3) := by decide +kernel
theorem dX8_primeSign_4 : decode cX8_primeSign 4 = .ok (.ifCond .eq 7, 3) := by decide +kernel
theorem dX8_primeSign_7 : decode cX8_primeSign 7 = .ok (.iload_n 2, 1) := by decide +kernel
theorem dX8_primeSign_8 : decode cX8_primeSign 8 = .ok (.ifCond .ge 5, 3) := by decide +kernel
theorem dX8_primeSign_11 : decode cX8_primeSign 11 = .ok (.iconst 0, 1) := by decide +kernel
theorem dX8_primeSign_12 : decode cX8_primeSign 12 = .ok (.ireturn, 1) := by decide +kernel
theorem dX8_primeSign_13 : decode cX8_primeSign 13 = .ok (.aload_n 0, 1) := by decide +kernel
theorem dX8_primeSign_14 : decode cX8_primeSign 14 = .ok (.getfield 52, 3) := by decide +kernel
theorem dX8_primeSign_17 : decode cX8_primeSign 17 = .ok (.aload_n 0, 1) := by decide +kernel
theorem dX8_primeSign_18 : decode cX8_primeSign 18 = .ok (.getfield 12, 3) := by decide +kernel
theorem dX8_primeSign_21 : decode cX8_primeSign 21 = .ok (.iload_n 1, 1) := by decide +kernel
theorem dX8_primeSign_22 : decode cX8_primeSign 22 = .ok (.iload_n 2, 1) := by decide +kernel
theorem dX8_primeSign_23 : decode cX8_primeSign 23 = .ok (.invokevirtual 185, 3) := by decide +kernel
theorem dX8_primeSign_26 : decode cX8_primeSign 26 = .ok (.ifCond .ne 5, 3) := by decide +kernel
theorem dX8_primeSign_29 : decode cX8_primeSign 29 = .ok (.iconst 0, 1) := by decide +kernel
theorem dX8_primeSign_30 : decode cX8_primeSign 30 = .ok (.ireturn, 1) := by decide +kernel
theorem dX8_primeSign_31 : decode cX8_primeSign 31 = .ok (.aload_n 0, 1) := by decide +kernel
theorem dX8_primeSign_32 : decode cX8_primeSign 32 = .ok (.getfield 52, 3) := by decide +kernel
theorem dX8_primeSign_35 : decode cX8_primeSign 35 = .ok (.aload_n 0, 1) := by decide +kernel
theorem dX8_primeSign_36 : decode cX8_primeSign 36 = .ok (.getfield 12, 3) := by decide +kernel
theorem dX8_primeSign_39 : decode cX8_primeSign 39 = .ok (.iload_n 1, 1) := by decide +kernel
theorem dX8_primeSign_40 : decode cX8_primeSign 40 = .ok (.invokevirtual 192, 3) := by decide +kernel
theorem dX8_primeSign_43 : decode cX8_primeSign 43 = .ok (.ireturn, 1) := by decide +kernel
theorem dX8_edgeCoefficient_0 : decode cX8_edgeCoefficient 0 = .ok (.iload_n 1, 1) := by decide +kernel
theorem dX8_edgeCoefficient_1 : decode cX8_edgeCoefficient 1 = .ok (.bipush 18, 2) := by decide +kernel
theorem dX8_edgeCoefficient_3 : decode cX8_edgeCoefficient 3 = .ok (.invokestatic 196, 3) := by decide +kernel
theorem dX8_edgeCoefficient_6 : decode cX8_edgeCoefficient 6 = .ok (.ifCond .ne 7, 3) := by decide +kernel
theorem dX8_edgeCoefficient_9 : decode cX8_edgeCoefficient 9 = .ok (.ldc2_w 149, 3) := by decide +kernel
theorem dX8_edgeCoefficient_12 : decode cX8_edgeCoefficient 12 = .ok (.lreturn, 1) := by decide +kernel
theorem dX8_edgeCoefficient_13 : decode cX8_edgeCoefficient 13 = .ok (.aload_n 0, 1) := by decide +kernel
theorem dX8_edgeCoefficient_14 : decode cX8_edgeCoefficient 14 = .ok (.invokevirtual 199, 3) := by decide +kernel
theorem dX8_edgeCoefficient_17 : decode cX8_edgeCoefficient 17 = .ok (.aload_n 0, 1) := by decide +kernel
theorem dX8_edgeCoefficient_18 : decode cX8_edgeCoefficient 18 = .ok (.getfield 59, 3) := by decide +kernel
theorem dX8_edgeCoefficient_21 : decode cX8_edgeCoefficient 21 = .ok (.getfield 202, 3) := by decide +kernel
theorem dX8_edgeCoefficient_24 : decode cX8_edgeCoefficient 24 = .ok (.iload_n 1, 1) := by decide +kernel
theorem dX8_edgeCoefficient_25 : decode cX8_edgeCoefficient 25 = .ok (.laload, 1) := by decide +kernel
theorem dX8_edgeCoefficient_26 : decode cX8_edgeCoefficient 26 = .ok (.lreturn, 1) := by decide +kernel
theorem dX8_signedCoefficient_0 : decode cX8_signedCoefficient 0 = .ok (.iload_n 1, 1) := by decide +kernel
theorem dX8_signedCoefficient_1 : decode cX8_signedCoefficient 1 = .ok (.bipush 18, 2) := by decide +kernel
theorem dX8_signedCoefficient_3 : decode cX8_signedCoefficient 3 = .ok (.invokestatic 196, 3) := by decide +kernel
theorem dX8_signedCoefficient_6 : decode cX8_signedCoefficient 6 = .ok (.ifCond .ne 7, 3) := by decide +kernel
theorem dX8_signedCoefficient_9 : decode cX8_signedCoefficient 9 = .ok (.ldc2_w 149, 3) := by decide +kernel
theorem dX8_signedCoefficient_12 : decode cX8_signedCoefficient 12 = .ok (.lreturn, 1) := by decide +kernel
theorem dX8_signedCoefficient_13 : decode cX8_signedCoefficient 13 = .ok (.aload_n 0, 1) := by decide +kernel
theorem dX8_signedCoefficient_14 : decode cX8_signedCoefficient 14 = .ok (.getfield 45, 3) := by decide +kernel
theorem dX8_signedCoefficient_17 : decode cX8_signedCoefficient 17 = .ok (.aload_n 0, 1) := by decide +kernel
theorem dX8_signedCoefficient_18 : decode cX8_signedCoefficient 18 = .ok (.getfield 12, 3) := by decide +kernel
theorem dX8_signedCoefficient_21 : decode cX8_signedCoefficient 21 = .ok (.invokevirtual 158, 3) := by decide +kernel
theorem dX8_signedCoefficient_24 : decode cX8_signedCoefficient 24 = .ok (.aload_n 0, 1) := by decide +kernel
theorem dX8_signedCoefficient_25 : decode cX8_signedCoefficient 25 = .ok (.getfield 59, 3) := by decide +kernel
theorem dX8_signedCoefficient_28 : decode cX8_signedCoefficient 28 = .ok (.aload_n 0, 1) := by decide +kernel
theorem dX8_signedCoefficient_29 : decode cX8_signedCoefficient 29 = .ok (.getfield 45, 3) := by decide +kernel
theorem dX8_signedCoefficient_32 : decode cX8_signedCoefficient 32 = .ok (.getfield 161, 3) := by decide +kernel
theorem dX8_signedCoefficient_35 : decode cX8_signedCoefficient 35 = .ok (.invokevirtual 205, 3) := by decide +kernel
theorem dX8_signedCoefficient_38 : decode cX8_signedCoefficient 38 = .ok (.aload_n 0, 1) := by decide +kernel
theorem dX8_signedCoefficient_39 : decode cX8_signedCoefficient 39 = .ok (.getfield 59, 3) := by decide +kernel
theorem dX8_signedCoefficient_42 : decode cX8_signedCoefficient 42 = .ok (.getfield 202, 3) := by decide +kernel
theorem dX8_signedCoefficient_45 : decode cX8_signedCoefficient 45 = .ok (.iload_n 1, 1) := by decide +kernel
theorem dX8_signedCoefficient_46 : decode cX8_signedCoefficient 46 = .ok (.laload, 1) := by decide +kernel
theorem dX8_signedCoefficient_47 : decode cX8_signedCoefficient 47 = .ok (.lreturn, 1) := by decide +kernel
theorem dX8_vertexCoefficient_0 : decode cX8_vertexCoefficient 0 = .ok (.iload_n 1, 1) := by decide +kernel
theorem dX8_vertexCoefficient_1 : decode cX8_vertexCoefficient 1 = .ok (.bipush 12, 2) := by decide +kernel
theorem dX8_vertexCoefficient_3 : decode cX8_vertexCoefficient 3 = .ok (.invokestatic 196, 3) := by decide +kernel
theorem dX8_vertexCoefficient_6 : decode cX8_vertexCoefficient 6 = .ok (.ifCond .ne 7, 3) := by decide +kernel
theorem dX8_vertexCoefficient_9 : decode cX8_vertexCoefficient 9 = .ok (.ldc2_w 149, 3) := by decide +kernel
theorem dX8_vertexCoefficient_12 : decode cX8_vertexCoefficient 12 = .ok (.lreturn, 1) := by decide +kernel
theorem dX8_vertexCoefficient_13 : decode cX8_vertexCoefficient 13 = .ok (.aload_n 0, 1) := by decide +kernel
theorem dX8_vertexCoefficient_14 : decode cX8_vertexCoefficient 14 = .ok (.getfield 66, 3) := by decide +kernel
theorem dX8_vertexCoefficient_17 : decode cX8_vertexCoefficient 17 = .ok (.aload_n 0, 1) := by decide +kernel
theorem dX8_vertexCoefficient_18 : decode cX8_vertexCoefficient 18 = .ok (.getfield 12, 3) := by decide +kernel
theorem dX8_vertexCoefficient_21 : decode cX8_vertexCoefficient 21 = .ok (.invokevirtual 209, 3) := by decide +kernel
theorem dX8_vertexCoefficient_24 : decode cX8_vertexCoefficient 24 = .ok (.aload_n 0, 1) := by decide +kernel
theorem dX8_vertexCoefficient_25 : decode cX8_vertexCoefficient 25 = .ok (.getfield 66, 3) := by decide +kernel
theorem dX8_vertexCoefficient_28 : decode cX8_vertexCoefficient 28 = .ok (.getfield 211, 3) := by decide +kernel
theorem dX8_vertexCoefficient_31 : decode cX8_vertexCoefficient 31 = .ok (.iload_n 1, 1) := by decide +kernel
theorem dX8_vertexCoefficient_32 : decode cX8_vertexCoefficient 32 = .ok (.laload, 1) := by decide +kernel
theorem dX8_vertexCoefficient_33 : decode cX8_vertexCoefficient 33 = .ok (.lreturn, 1) := by decide +kernel
theorem dX8_bassCoefficient_0 : decode cX8_bassCoefficient 0 = .ok (.iload_n 1, 1) := by decide +kernel
theorem dX8_bassCoefficient_1 : decode cX8_bassCoefficient 1 = .ok (.bipush 18, 2) := by decide +kernel
theorem dX8_bassCoefficient_3 : decode cX8_bassCoefficient 3 = .ok (.invokestatic 196, 3) := by decide +kernel
theorem dX8_bassCoefficient_6 : decode cX8_bassCoefficient 6 = .ok (.ifCond .ne 7, 3) := by decide +kernel
theorem dX8_bassCoefficient_9 : decode cX8_bassCoefficient 9 = .ok (.ldc2_w 149, 3) := by decide +kernel
theorem dX8_bassCoefficient_12 : decode cX8_bassCoefficient 12 = .ok (.lreturn, 1) := by decide +kernel
theorem dX8_bassCoefficient_13 : decode cX8_bassCoefficient 13 = .ok (.aload_n 0, 1) := by decide +kernel
theorem dX8_bassCoefficient_14 : decode cX8_bassCoefficient 14 = .ok (.getfield 66, 3) := by decide +kernel
theorem dX8_bassCoefficient_17 : decode cX8_bassCoefficient 17 = .ok (.aload_n 0, 1) := by decide +kernel
theorem dX8_bassCoefficient_18 : decode cX8_bassCoefficient 18 = .ok (.getfield 12, 3) := by decide +kernel
theorem dX8_bassCoefficient_21 : decode cX8_bassCoefficient 21 = .ok (.invokevirtual 209, 3) := by decide +kernel
theorem dX8_bassCoefficient_24 : decode cX8_bassCoefficient 24 = .ok (.aload_n 0, 1) := by decide +kernel
theorem dX8_bassCoefficient_25 : decode cX8_bassCoefficient 25 = .ok (.getfield 66, 3) := by decide +kernel
theorem dX8_bassCoefficient_28 : decode cX8_bassCoefficient 28 = .ok (.aload_n 0, 1) := by decide +kernel
theorem dX8_bassCoefficient_29 : decode cX8_bassCoefficient 29 = .ok (.getfield 12, 3) := by decide +kernel
theorem dX8_bassCoefficient_32 : decode cX8_bassCoefficient 32 = .ok (.getfield 94, 3) := by decide +kernel
theorem dX8_bassCoefficient_35 : decode cX8_bassCoefficient 35 = .ok (.aload_n 0, 1) := by decide +kernel
theorem dX8_bassCoefficient_36 : decode cX8_bassCoefficient 36 = .ok (.getfield 12, 3) := by decide +kernel
theorem dX8_bassCoefficient_39 : decode cX8_bassCoefficient 39 = .ok (.getfield 70, 3) := by decide +kernel
theorem dX8_bassCoefficient_42 : decode cX8_bassCoefficient 42 = .ok (.isub, 1) := by decide +kernel
theorem dX8_bassCoefficient_43 : decode cX8_bassCoefficient 43 = .ok (.invokevirtual 212, 3) := by decide +kernel
theorem dX8_bassCoefficient_46 : decode cX8_bassCoefficient 46 = .ok (.aload_n 0, 1) := by decide +kernel
theorem dX8_bassCoefficient_47 : decode cX8_bassCoefficient 47 = .ok (.getfield 66, 3) := by decide +kernel
theorem dX8_bassCoefficient_50 : decode cX8_bassCoefficient 50 = .ok (.getfield 211, 3) := by decide +kernel
theorem dX8_bassCoefficient_53 : decode cX8_bassCoefficient 53 = .ok (.iload_n 1, 1) := by decide +kernel
theorem dX8_bassCoefficient_54 : decode cX8_bassCoefficient 54 = .ok (.laload, 1) := by decide +kernel
theorem dX8_bassCoefficient_55 : decode cX8_bassCoefficient 55 = .ok (.lreturn, 1) := by decide +kernel
theorem dX8_zetaCoefficient_0 : decode cX8_zetaCoefficient 0 = .ok (.iload_n 1, 1) := by decide +kernel
theorem dX8_zetaCoefficient_1 : decode cX8_zetaCoefficient 1 = .ok (.bipush 12, 2) := by decide +kernel
theorem dX8_zetaCoefficient_3 : decode cX8_zetaCoefficient 3 = .ok (.invokestatic 196, 3) := by decide +kernel
theorem dX8_zetaCoefficient_6 : decode cX8_zetaCoefficient 6 = .ok (.ifCond .ne 7, 3) := by decide +kernel
theorem dX8_zetaCoefficient_9 : decode cX8_zetaCoefficient 9 = .ok (.ldc2_w 149, 3) := by decide +kernel
theorem dX8_zetaCoefficient_12 : decode cX8_zetaCoefficient 12 = .ok (.lreturn, 1) := by decide +kernel
theorem dX8_zetaCoefficient_13 : decode cX8_zetaCoefficient 13 = .ok (.aload_n 0, 1) := by decide +kernel
theorem dX8_zetaCoefficient_14 : decode cX8_zetaCoefficient 14 = .ok (.invokevirtual 199, 3) := by decide +kernel
theorem dX8_zetaCoefficient_17 : decode cX8_zetaCoefficient 17 = .ok (.aload_n 0, 1) := by decide +kernel
theorem dX8_zetaCoefficient_18 : decode cX8_zetaCoefficient 18 = .ok (.getfield 59, 3) := by decide +kernel
theorem dX8_zetaCoefficient_21 : decode cX8_zetaCoefficient 21 = .ok (.iload_n 1, 1) := by decide +kernel
theorem dX8_zetaCoefficient_22 : decode cX8_zetaCoefficient 22 = .ok (.invokevirtual 215, 3) := by decide +kernel
theorem dX8_zetaCoefficient_25 : decode cX8_zetaCoefficient 25 = .ok (.lreturn, 1) := by decide +kernel
theorem dX8_edgeValue_0 : decode cX8_edgeValue 0 = .ok (.iload_n 1, 1) := by decide +kernel
theorem dX8_edgeValue_1 : decode cX8_edgeValue 1 = .ok (.bipush (-2), 2) := by decide +kernel
theorem dX8_edgeValue_3 : decode cX8_edgeValue 3 = .ok (.if_icmp .lt 8, 3) := by decide +kernel
theorem dX8_edgeValue_6 : decode cX8_edgeValue 6 = .ok (.iload_n 1, 1) := by decide +kernel
theorem dX8_edgeValue_7 : decode cX8_edgeValue 7 = .ok (.iconst 2, 1) := by decide +kernel
theorem dX8_edgeValue_8 : decode cX8_edgeValue 8 = .ok (.if_icmp .le 7, 3) := by decide +kernel
theorem dX8_edgeValue_11 : decode cX8_edgeValue 11 = .ok (.ldc2_w 149, 3) := by decide +kernel
theorem dX8_edgeValue_14 : decode cX8_edgeValue 14 = .ok (.lreturn, 1) := by decide +kernel
theorem dX8_edgeValue_15 : decode cX8_edgeValue 15 = .ok (.aload_n 0, 1) := by decide +kernel
theorem dX8_edgeValue_16 : decode cX8_edgeValue 16 = .ok (.invokevirtual 199, 3) := by decide +kernel
theorem dX8_edgeValue_19 : decode cX8_edgeValue 19 = .ok (.aload_n 0, 1) := by decide +kernel
theorem dX8_edgeValue_20 : decode cX8_edgeValue 20 = .ok (.getfield 59, 3) := by decide +kernel
theorem dX8_edgeValue_23 : decode cX8_edgeValue 23 = .ok (.iload_n 1, 1) := by decide +kernel
theorem dX8_edgeValue_24 : decode cX8_edgeValue 24 = .ok (.i2l, 1) := by decide +kernel
theorem dX8_edgeValue_25 : decode cX8_edgeValue 25 = .ok (.invokevirtual 219, 3) := by decide +kernel
theorem dX8_edgeValue_28 : decode cX8_edgeValue 28 = .ok (.lreturn, 1) := by decide +kernel
theorem dX8_taylorAtOne_0 : decode cX8_taylorAtOne 0 = .ok (.iload_n 1, 1) := by decide +kernel
theorem dX8_taylorAtOne_1 : decode cX8_taylorAtOne 1 = .ok (.bipush 18, 2) := by decide +kernel
theorem dX8_taylorAtOne_3 : decode cX8_taylorAtOne 3 = .ok (.invokestatic 196, 3) := by decide +kernel
theorem dX8_taylorAtOne_6 : decode cX8_taylorAtOne 6 = .ok (.ifCond .ne 7, 3) := by decide +kernel
theorem dX8_taylorAtOne_9 : decode cX8_taylorAtOne 9 = .ok (.ldc2_w 149, 3) := by decide +kernel
theorem dX8_taylorAtOne_12 : decode cX8_taylorAtOne 12 = .ok (.lreturn, 1) := by decide +kernel
theorem dX8_taylorAtOne_13 : decode cX8_taylorAtOne 13 = .ok (.aload_n 0, 1) := by decide +kernel
theorem dX8_taylorAtOne_14 : decode cX8_taylorAtOne 14 = .ok (.invokevirtual 199, 3) := by decide +kernel
theorem dX8_taylorAtOne_17 : decode cX8_taylorAtOne 17 = .ok (.aload_n 0, 1) := by decide +kernel
theorem dX8_taylorAtOne_18 : decode cX8_taylorAtOne 18 = .ok (.getfield 59, 3) := by decide +kernel
theorem dX8_taylorAtOne_21 : decode cX8_taylorAtOne 21 = .ok (.iload_n 1, 1) := by decide +kernel
theorem dX8_taylorAtOne_22 : decode cX8_taylorAtOne 22 = .ok (.invokevirtual 223, 3) := by decide +kernel
theorem dX8_taylorAtOne_25 : decode cX8_taylorAtOne 25 = .ok (.lreturn, 1) := by decide +kernel
theorem dX8_edgeDegree_0 : decode cX8_edgeDegree 0 = .ok (.aload_n 0, 1) := by decide +kernel
theorem dX8_edgeDegree_1 : decode cX8_edgeDegree 1 = .ok (.invokevirtual 199, 3) := by decide +kernel
theorem dX8_edgeDegree_4 : decode cX8_edgeDegree 4 = .ok (.aload_n 0, 1) := by decide +kernel
theorem dX8_edgeDegree_5 : decode cX8_edgeDegree 5 = .ok (.getfield 59, 3) := by decide +kernel
theorem dX8_edgeDegree_8 : decode cX8_edgeDegree 8 = .ok (.invokevirtual 226, 3) := by decide +kernel
theorem dX8_edgeDegree_11 : decode cX8_edgeDegree 11 = .ok (.ireturn, 1) := by decide +kernel
theorem dX8_spanningTrees_0 : decode cX8_spanningTrees 0 = .ok (.aload_n 0, 1) := by decide +kernel
theorem dX8_spanningTrees_1 : decode cX8_spanningTrees 1 = .ok (.getfield 38, 3) := by decide +kernel
theorem dX8_spanningTrees_4 : decode cX8_spanningTrees 4 = .ok (.aload_n 0, 1) := by decide +kernel
theorem dX8_spanningTrees_5 : decode cX8_spanningTrees 5 = .ok (.getfield 12, 3) := by decide +kernel
theorem dX8_spanningTrees_8 : decode cX8_spanningTrees 8 = .ok (.invokevirtual 230, 3) := by decide +kernel
theorem dX8_spanningTrees_11 : decode cX8_spanningTrees 11 = .ok (.ireturn, 1) := by decide +kernel
theorem dX8_makeEdgePolynomial_0 : decode cX8_makeEdgePolynomial 0 = .ok (.aload_n 0, 1) := by decide +kernel
theorem dX8_makeEdgePolynomial_1 : decode cX8_makeEdgePolynomial 1 = .ok (.getfield 45, 3) := by decide +kernel
theorem dX8_makeEdgePolynomial_4 : decode cX8_makeEdgePolynomial 4 = .ok (.aload_n 0, 1) := by decide +kernel
theorem dX8_makeEdgePolynomial_5 : decode cX8_makeEdgePolynomial 5 = .ok (.getfield 12, 3) := by decide +kernel
theorem dX8_makeEdgePolynomial_8 : decode cX8_makeEdgePolynomial 8 = .ok (.invokevirtual 151, 3) := by decide +kernel
theorem dX8_makeEdgePolynomial_11 : decode cX8_makeEdgePolynomial 11 = .ok (.aload_n 0, 1) := by decide +kernel
theorem dX8_makeEdgePolynomial_12 : decode cX8_makeEdgePolynomial 12 = .ok (.getfield 59, 3) := by decide +kernel
theorem dX8_makeEdgePolynomial_15 : decode cX8_makeEdgePolynomial 15 = .ok (.aload_n 0, 1) := by decide +kernel
theorem dX8_makeEdgePolynomial_16 : decode cX8_makeEdgePolynomial 16 = .ok (.getfield 45, 3) := by decide +kernel
theorem dX8_makeEdgePolynomial_19 : decode cX8_makeEdgePolynomial 19 = .ok (.getfield 154, 3) := by decide +kernel
theorem dX8_makeEdgePolynomial_22 : decode cX8_makeEdgePolynomial 22 = .ok (.invokevirtual 205, 3) := by decide +kernel
theorem dX8_makeEdgePolynomial_25 : decode cX8_makeEdgePolynomial 25 = .ok (.return_, 1) := by decide +kernel
theorem dX8_isWalkLength_0 : decode cX8_isWalkLength 0 = .ok (.iload_n 0, 1) := by decide +kernel
theorem dX8_isWalkLength_1 : decode cX8_isWalkLength 1 = .ok (.iconst 1, 1) := by decide +kernel
theorem dX8_isWalkLength_2 : decode cX8_isWalkLength 2 = .ok (.if_icmp .lt 13, 3) := by decide +kernel
theorem dX8_isWalkLength_5 : decode cX8_isWalkLength 5 = .ok (.iload_n 0, 1) := by decide +kernel
theorem dX8_isWalkLength_6 : decode cX8_isWalkLength 6 = .ok (.bipush 18, 2) := by decide +kernel
theorem dX8_isWalkLength_8 : decode cX8_isWalkLength 8 = .ok (.if_icmp .gt 7, 3) := by decide +kernel
theorem dX8_isWalkLength_11 : decode cX8_isWalkLength 11 = .ok (.iconst 1, 1) := by decide +kernel
theorem dX8_isWalkLength_12 : decode cX8_isWalkLength 12 = .ok (.goto 4, 3) := by decide +kernel
theorem dX8_isWalkLength_15 : decode cX8_isWalkLength 15 = .ok (.iconst 0, 1) := by decide +kernel
theorem dX8_isWalkLength_16 : decode cX8_isWalkLength 16 = .ok (.ireturn, 1) := by decide +kernel
theorem dX8_isPrimeLength_0 : decode cX8_isPrimeLength 0 = .ok (.iload_n 0, 1) := by decide +kernel
theorem dX8_isPrimeLength_1 : decode cX8_isPrimeLength 1 = .ok (.iconst 1, 1) := by decide +kernel
theorem dX8_isPrimeLength_2 : decode cX8_isPrimeLength 2 = .ok (.if_icmp .lt 12, 3) := by decide +kernel
theorem dX8_isPrimeLength_5 : decode cX8_isPrimeLength 5 = .ok (.iload_n 0, 1) := by decide +kernel
theorem dX8_isPrimeLength_6 : decode cX8_isPrimeLength 6 = .ok (.iconst 5, 1) := by decide +kernel
theorem dX8_isPrimeLength_7 : decode cX8_isPrimeLength 7 = .ok (.if_icmp .gt 7, 3) := by decide +kernel
theorem dX8_isPrimeLength_10 : decode cX8_isPrimeLength 10 = .ok (.iconst 1, 1) := by decide +kernel
theorem dX8_isPrimeLength_11 : decode cX8_isPrimeLength 11 = .ok (.goto 4, 3) := by decide +kernel
theorem dX8_isPrimeLength_14 : decode cX8_isPrimeLength 14 = .ok (.iconst 0, 1) := by decide +kernel
theorem dX8_isPrimeLength_15 : decode cX8_isPrimeLength 15 = .ok (.ireturn, 1) := by decide +kernel
theorem dX8_isIndex_0 : decode cX8_isIndex 0 = .ok (.iload_n 0, 1) := by decide +kernel
theorem dX8_isIndex_1 : decode cX8_isIndex 1 = .ok (.ifCond .lt 12, 3) := by decide +kernel
theorem dX8_isIndex_4 : decode cX8_isIndex 4 = .ok (.iload_n 0, 1) := by decide +kernel
theorem dX8_isIndex_5 : decode cX8_isIndex 5 = .ok (.iload_n 1, 1) := by decide +kernel
theorem dX8_isIndex_6 : decode cX8_isIndex 6 = .ok (.if_icmp .gt 7, 3) := by decide +kernel
theorem dX8_isIndex_9 : decode cX8_isIndex 9 = .ok (.iconst 1, 1) := by decide +kernel
theorem dX8_isIndex_10 : decode cX8_isIndex 10 = .ok (.goto 4, 3) := by decide +kernel
theorem dX8_isIndex_13 : decode cX8_isIndex 13 = .ok (.iconst 0, 1) := by decide +kernel
theorem dX8_isIndex_14 : decode cX8_isIndex 14 = .ok (.ireturn, 1) := by decide +kernel
theorem dX8_commonDivisor_0 : decode cX8_commonDivisor 0 = .ok (.iload_n 0, 1) := by decide +kernel
theorem dX8_commonDivisor_1 : decode cX8_commonDivisor 1 = .ok (.istore_n 2, 1) := by decide +kernel
theorem dX8_commonDivisor_2 : decode cX8_commonDivisor 2 = .ok (.iload_n 2, 1) := by decide +kernel
theorem dX8_commonDivisor_3 : decode cX8_commonDivisor 3 = .ok (.iconst 1, 1) := by decide +kernel
theorem dX8_commonDivisor_4 : decode cX8_commonDivisor 4 = .ok (.if_icmp .le 23, 3) := by decide +kernel
theorem dX8_commonDivisor_7 : decode cX8_commonDivisor 7 = .ok (.iload_n 0, 1) := by decide +kernel
theorem dX8_commonDivisor_8 : decode cX8_commonDivisor 8 = .ok (.iload_n 2, 1) := by decide +kernel
theorem dX8_commonDivisor_9 : decode cX8_commonDivisor 9 = .ok (.irem, 1) := by decide +kernel
theorem dX8_commonDivisor_10 : decode cX8_commonDivisor 10 = .ok (.ifCond .ne 11, 3) := by decide +kernel
theorem dX8_commonDivisor_13 : decode cX8_commonDivisor 13 = .ok (.iload_n 1, 1) := by decide +kernel
theorem dX8_commonDivisor_14 : decode cX8_commonDivisor 14 = .ok (.iload_n 2, 1) := by decide +kernel
theorem dX8_commonDivisor_15 : decode cX8_commonDivisor 15 = .ok (.irem, 1) := by decide +kernel
theorem dX8_commonDivisor_16 : decode cX8_commonDivisor 16 = .ok (.ifCond .ne 5, 3) := by decide +kernel
theorem dX8_commonDivisor_19 : decode cX8_commonDivisor 19 = .ok (.iload_n 2, 1) := by decide +kernel
theorem dX8_commonDivisor_20 : decode cX8_commonDivisor 20 = .ok (.ireturn, 1) := by decide +kernel
theorem dX8_commonDivisor_21 : decode cX8_commonDivisor 21 = .ok (.iinc 2 (-1), 3) := by decide +kernel
theorem dX8_commonDivisor_24 : decode cX8_commonDivisor 24 = .ok (.goto (-22), 3) := by decide +kernel
theorem dX8_commonDivisor_27 : decode cX8_commonDivisor 27 = .ok (.iconst 1, 1) := by decide +kernel
theorem dX8_commonDivisor_28 : decode cX8_commonDivisor 28 = .ok (.ireturn, 1) := by decide +kernel
