section
-- ===== PART A: goes FIRST, ahead of the names: the tables' words, and 'selects' of the private methods out of them =====
/-- a private method of a class that the tables say can be made, by its rows of tables_1 -/
def lw_okq (q : MethodName × Nat) : Prop := (q.1.cls ≠ "java/lang/invoke/MethodHandle" ∧ q.1.cls ≠ "java/lang/invoke/VarHandle") ∧ Cond.instantiable q.1.cls q.2 ∈ tables_1 ∧ Cond.privateMethod q.1 ∈ tables_1 ∧ Cond.instanceMethod q.1 ∈ tables_1
theorem lw_p0 : lw_okq (⟨"IharaZeta$History", "discardOldest", "()V"⟩, 2) := ⟨⟨by decide +kernel, by decide +kernel⟩, List.mem_of_getElem? (i := 59) (by decide +kernel), List.mem_of_getElem? (i := 225) (by decide +kernel), List.mem_of_getElem? (i := 226) (by decide +kernel)⟩
theorem lw_p1 : lw_okq (⟨"IharaZeta$EdgeText", "accept", "(ILIharaZeta$Graph;)Z"⟩, 6) := ⟨⟨by decide +kernel, by decide +kernel⟩, List.mem_of_getElem? (i := 76) (by decide +kernel), List.mem_of_getElem? (i := 290) (by decide +kernel), List.mem_of_getElem? (i := 291) (by decide +kernel)⟩
theorem lw_p2 : lw_okq (⟨"IharaZeta$EdgeText", "acceptFirst", "(ILIharaZeta$Graph;)Z"⟩, 6) := ⟨⟨by decide +kernel, by decide +kernel⟩, List.mem_of_getElem? (i := 76) (by decide +kernel), List.mem_of_getElem? (i := 294) (by decide +kernel), List.mem_of_getElem? (i := 295) (by decide +kernel)⟩
theorem lw_p3 : lw_okq (⟨"IharaZeta$EdgeText", "acceptSign", "(I)Z"⟩, 6) := ⟨⟨by decide +kernel, by decide +kernel⟩, List.mem_of_getElem? (i := 76) (by decide +kernel), List.mem_of_getElem? (i := 300) (by decide +kernel), List.mem_of_getElem? (i := 301) (by decide +kernel)⟩
theorem lw_p4 : lw_okq (⟨"IharaZeta$EdgeText", "acceptSecond", "(ILIharaZeta$Graph;)Z"⟩, 6) := ⟨⟨by decide +kernel, by decide +kernel⟩, List.mem_of_getElem? (i := 76) (by decide +kernel), List.mem_of_getElem? (i := 304) (by decide +kernel), List.mem_of_getElem? (i := 305) (by decide +kernel)⟩
theorem lw_p5 : lw_okq (⟨"IharaZeta$EdgeText", "acceptEnd", "(ILIharaZeta$Graph;)Z"⟩, 6) := ⟨⟨by decide +kernel, by decide +kernel⟩, List.mem_of_getElem? (i := 76) (by decide +kernel), List.mem_of_getElem? (i := 308) (by decide +kernel), List.mem_of_getElem? (i := 309) (by decide +kernel)⟩
theorem lw_p6 : lw_okq (⟨"IharaZeta$Grouping", "separate", "()V"⟩, 2) := ⟨⟨by decide +kernel, by decide +kernel⟩, List.mem_of_getElem? (i := 102) (by decide +kernel), List.mem_of_getElem? (i := 371) (by decide +kernel), List.mem_of_getElem? (i := 372) (by decide +kernel)⟩
theorem lw_p7 : lw_okq (⟨"IharaZeta$Grouping", "unite", "(LIharaZeta$Graph;I)Z"⟩, 2) := ⟨⟨by decide +kernel, by decide +kernel⟩, List.mem_of_getElem? (i := 102) (by decide +kernel), List.mem_of_getElem? (i := 375) (by decide +kernel), List.mem_of_getElem? (i := 376) (by decide +kernel)⟩
theorem lw_p8 : lw_okq (⟨"IharaZeta$Grouping", "turnFor", "(LIharaZeta$Graph;I)I"⟩, 2) := ⟨⟨by decide +kernel, by decide +kernel⟩, List.mem_of_getElem? (i := 102) (by decide +kernel), List.mem_of_getElem? (i := 379) (by decide +kernel), List.mem_of_getElem? (i := 380) (by decide +kernel)⟩
theorem lw_p9 : lw_okq (⟨"IharaZeta$WalkCounter", "addReturns", "(LIharaZeta$Graph;Z[J)V"⟩, 6) := ⟨⟨by decide +kernel, by decide +kernel⟩, List.mem_of_getElem? (i := 115) (by decide +kernel), List.mem_of_getElem? (i := 407) (by decide +kernel), List.mem_of_getElem? (i := 408) (by decide +kernel)⟩
theorem lw_p10 : lw_okq (⟨"IharaZeta$WalkCounter", "goOn", "(LIharaZeta$Graph;Z)V"⟩, 6) := ⟨⟨by decide +kernel, by decide +kernel⟩, List.mem_of_getElem? (i := 115) (by decide +kernel), List.mem_of_getElem? (i := 414) (by decide +kernel), List.mem_of_getElem? (i := 415) (by decide +kernel)⟩
theorem lw_p11 : lw_okq (⟨"IharaZeta$PrimeSearch", "extend", "(LIharaZeta$Graph;III)Z"⟩, 2) := ⟨⟨by decide +kernel, by decide +kernel⟩, List.mem_of_getElem? (i := 145) (by decide +kernel), List.mem_of_getElem? (i := 475) (by decide +kernel), List.mem_of_getElem? (i := 476) (by decide +kernel)⟩
theorem lw_p12 : lw_okq (⟨"IharaZeta$PrimeSearch", "isWanted", "(LIharaZeta$Graph;II)Z"⟩, 2) := ⟨⟨by decide +kernel, by decide +kernel⟩, List.mem_of_getElem? (i := 145) (by decide +kernel), List.mem_of_getElem? (i := 479) (by decide +kernel), List.mem_of_getElem? (i := 480) (by decide +kernel)⟩
theorem lw_p13 : lw_okq (⟨"IharaZeta", "makeEdgePolynomial", "()V"⟩, 9) := ⟨⟨by decide +kernel, by decide +kernel⟩, List.mem_of_getElem? (i := 15) (by decide +kernel), List.mem_of_getElem? (i := 499) (by decide +kernel), List.mem_of_getElem? (i := 500) (by decide +kernel)⟩
theorem lw_p14 : lw_okq (⟨"IharaZeta$VertexPolynomial", "makeMinor", "(LIharaZeta$Graph;I)V"⟩, 2) := ⟨⟨by decide +kernel, by decide +kernel⟩, List.mem_of_getElem? (i := 173) (by decide +kernel), List.mem_of_getElem? (i := 520) (by decide +kernel), List.mem_of_getElem? (i := 521) (by decide +kernel)⟩
theorem lw_p15 : lw_okq (⟨"IharaZeta$Grouping", "isForest", "(LIharaZeta$Graph;I)Z"⟩, 2) := ⟨⟨by decide +kernel, by decide +kernel⟩, List.mem_of_getElem? (i := 102) (by decide +kernel), List.mem_of_getElem? (i := 594) (by decide +kernel), List.mem_of_getElem? (i := 595) (by decide +kernel)⟩
def lw_privs_1 : List (MethodName × Nat) := [(⟨"IharaZeta$History", "discardOldest", "()V"⟩, 2), (⟨"IharaZeta$EdgeText", "accept", "(ILIharaZeta$Graph;)Z"⟩, 6), (⟨"IharaZeta$EdgeText", "acceptFirst", "(ILIharaZeta$Graph;)Z"⟩, 6), (⟨"IharaZeta$EdgeText", "acceptSign", "(I)Z"⟩, 6), (⟨"IharaZeta$EdgeText", "acceptSecond", "(ILIharaZeta$Graph;)Z"⟩, 6), (⟨"IharaZeta$EdgeText", "acceptEnd", "(ILIharaZeta$Graph;)Z"⟩, 6), (⟨"IharaZeta$Grouping", "separate", "()V"⟩, 2), (⟨"IharaZeta$Grouping", "unite", "(LIharaZeta$Graph;I)Z"⟩, 2), (⟨"IharaZeta$Grouping", "turnFor", "(LIharaZeta$Graph;I)I"⟩, 2), (⟨"IharaZeta$WalkCounter", "addReturns", "(LIharaZeta$Graph;Z[J)V"⟩, 6), (⟨"IharaZeta$WalkCounter", "goOn", "(LIharaZeta$Graph;Z)V"⟩, 6), (⟨"IharaZeta$PrimeSearch", "extend", "(LIharaZeta$Graph;III)Z"⟩, 2), (⟨"IharaZeta$PrimeSearch", "isWanted", "(LIharaZeta$Graph;II)Z"⟩, 2), (⟨"IharaZeta", "makeEdgePolynomial", "()V"⟩, 9), (⟨"IharaZeta$VertexPolynomial", "makeMinor", "(LIharaZeta$Graph;I)V"⟩, 2), (⟨"IharaZeta$Grouping", "isForest", "(LIharaZeta$Graph;I)Z"⟩, 2)]
theorem lw_r1 : ∀ q ∈ lw_privs_1, lw_okq q := List.forall_mem_cons.mpr ⟨lw_p0, List.forall_mem_cons.mpr ⟨lw_p1, List.forall_mem_cons.mpr ⟨lw_p2, List.forall_mem_cons.mpr ⟨lw_p3, List.forall_mem_cons.mpr ⟨lw_p4, List.forall_mem_cons.mpr ⟨lw_p5, List.forall_mem_cons.mpr ⟨lw_p6, List.forall_mem_cons.mpr ⟨lw_p7, List.forall_mem_cons.mpr ⟨lw_p8, List.forall_mem_cons.mpr ⟨lw_p9, List.forall_mem_cons.mpr ⟨lw_p10, List.forall_mem_cons.mpr ⟨lw_p11, List.forall_mem_cons.mpr ⟨lw_p12, List.forall_mem_cons.mpr ⟨lw_p13, List.forall_mem_cons.mpr ⟨lw_p14, List.forall_mem_cons.mpr ⟨lw_p15, fun _ h => absurd h List.not_mem_nil⟩⟩⟩⟩⟩⟩⟩⟩⟩⟩⟩⟩⟩⟩⟩⟩
theorem lw_p16 : lw_okq (⟨"IharaZetaModel", "save", "()V"⟩, 22) := ⟨⟨by decide +kernel, by decide +kernel⟩, List.mem_of_getElem? (i := 598) (by decide +kernel), List.mem_of_getElem? (i := 678) (by decide +kernel), List.mem_of_getElem? (i := 679) (by decide +kernel)⟩
theorem lw_p17 : lw_okq (⟨"IharaZetaModel", "isVertex", "(I)Z"⟩, 22) := ⟨⟨by decide +kernel, by decide +kernel⟩, List.mem_of_getElem? (i := 598) (by decide +kernel), List.mem_of_getElem? (i := 686) (by decide +kernel), List.mem_of_getElem? (i := 687) (by decide +kernel)⟩
theorem lw_p18 : lw_okq (⟨"IharaZetaModel", "isEdge", "(I)Z"⟩, 22) := ⟨⟨by decide +kernel, by decide +kernel⟩, List.mem_of_getElem? (i := 598) (by decide +kernel), List.mem_of_getElem? (i := 694) (by decide +kernel), List.mem_of_getElem? (i := 695) (by decide +kernel)⟩
theorem lw_p19 : lw_okq (⟨"IharaZetaModel", "reads", "()I"⟩, 22) := ⟨⟨by decide +kernel, by decide +kernel⟩, List.mem_of_getElem? (i := 598) (by decide +kernel), List.mem_of_getElem? (i := 714) (by decide +kernel), List.mem_of_getElem? (i := 715) (by decide +kernel)⟩
theorem lw_p20 : lw_okq (⟨"IharaZetaModel", "takes", "(I)Z"⟩, 22) := ⟨⟨by decide +kernel, by decide +kernel⟩, List.mem_of_getElem? (i := 598) (by decide +kernel), List.mem_of_getElem? (i := 718) (by decide +kernel), List.mem_of_getElem? (i := 719) (by decide +kernel)⟩
theorem lw_p21 : lw_okq (⟨"IharaZetaModel", "isDirected", "(I)Z"⟩, 22) := ⟨⟨by decide +kernel, by decide +kernel⟩, List.mem_of_getElem? (i := 598) (by decide +kernel), List.mem_of_getElem? (i := 738) (by decide +kernel), List.mem_of_getElem? (i := 739) (by decide +kernel)⟩
theorem lw_p22 : lw_okq (⟨"IharaZetaModel", "endOf", "(II)I"⟩, 22) := ⟨⟨by decide +kernel, by decide +kernel⟩, List.mem_of_getElem? (i := 598) (by decide +kernel), List.mem_of_getElem? (i := 742) (by decide +kernel), List.mem_of_getElem? (i := 743) (by decide +kernel)⟩
theorem lw_p23 : lw_okq (⟨"IharaZetaModel", "isNext", "(II)Z"⟩, 22) := ⟨⟨by decide +kernel, by decide +kernel⟩, List.mem_of_getElem? (i := 598) (by decide +kernel), List.mem_of_getElem? (i := 750) (by decide +kernel), List.mem_of_getElem? (i := 751) (by decide +kernel)⟩
theorem lw_p24 : lw_okq (⟨"IharaZetaModel", "degreeOf", "(I)I"⟩, 22) := ⟨⟨by decide +kernel, by decide +kernel⟩, List.mem_of_getElem? (i := 598) (by decide +kernel), List.mem_of_getElem? (i := 758) (by decide +kernel), List.mem_of_getElem? (i := 759) (by decide +kernel)⟩
theorem lw_p25 : lw_okq (⟨"IharaZetaModel", "partsNow", "()I"⟩, 22) := ⟨⟨by decide +kernel, by decide +kernel⟩, List.mem_of_getElem? (i := 598) (by decide +kernel), List.mem_of_getElem? (i := 766) (by decide +kernel), List.mem_of_getElem? (i := 767) (by decide +kernel)⟩
theorem lw_p26 : lw_okq (⟨"IharaZetaModel", "signOf", "(I)I"⟩, 22) := ⟨⟨by decide +kernel, by decide +kernel⟩, List.mem_of_getElem? (i := 598) (by decide +kernel), List.mem_of_getElem? (i := 778) (by decide +kernel), List.mem_of_getElem? (i := 779) (by decide +kernel)⟩
theorem lw_p27 : lw_okq (⟨"IharaZetaModel", "walksOf", "(ZI)J"⟩, 22) := ⟨⟨by decide +kernel, by decide +kernel⟩, List.mem_of_getElem? (i := 598) (by decide +kernel), List.mem_of_getElem? (i := 789) (by decide +kernel), List.mem_of_getElem? (i := 790) (by decide +kernel)⟩
theorem lw_p28 : lw_okq (⟨"IharaZetaModel", "laysTraces", "(ZI[J)V"⟩, 22) := ⟨⟨by decide +kernel, by decide +kernel⟩, List.mem_of_getElem? (i := 598) (by decide +kernel), List.mem_of_getElem? (i := 793) (by decide +kernel), List.mem_of_getElem? (i := 794) (by decide +kernel)⟩
theorem lw_p29 : lw_okq (⟨"IharaZetaModel", "laysEdges", "(Z)V"⟩, 22) := ⟨⟨by decide +kernel, by decide +kernel⟩, List.mem_of_getElem? (i := 598) (by decide +kernel), List.mem_of_getElem? (i := 797) (by decide +kernel), List.mem_of_getElem? (i := 798) (by decide +kernel)⟩
theorem lw_p30 : lw_okq (⟨"IharaZetaModel", "goesOn", "()V"⟩, 22) := ⟨⟨by decide +kernel, by decide +kernel⟩, List.mem_of_getElem? (i := 598) (by decide +kernel), List.mem_of_getElem? (i := 801) (by decide +kernel), List.mem_of_getElem? (i := 802) (by decide +kernel)⟩
theorem lw_p31 : lw_okq (⟨"IharaZetaModel", "laysPrimes", "(I)V"⟩, 22) := ⟨⟨by decide +kernel, by decide +kernel⟩, List.mem_of_getElem? (i := 598) (by decide +kernel), List.mem_of_getElem? (i := 818) (by decide +kernel), List.mem_of_getElem? (i := 819) (by decide +kernel)⟩
def lw_privs_2 : List (MethodName × Nat) := [(⟨"IharaZetaModel", "save", "()V"⟩, 22), (⟨"IharaZetaModel", "isVertex", "(I)Z"⟩, 22), (⟨"IharaZetaModel", "isEdge", "(I)Z"⟩, 22), (⟨"IharaZetaModel", "reads", "()I"⟩, 22), (⟨"IharaZetaModel", "takes", "(I)Z"⟩, 22), (⟨"IharaZetaModel", "isDirected", "(I)Z"⟩, 22), (⟨"IharaZetaModel", "endOf", "(II)I"⟩, 22), (⟨"IharaZetaModel", "isNext", "(II)Z"⟩, 22), (⟨"IharaZetaModel", "degreeOf", "(I)I"⟩, 22), (⟨"IharaZetaModel", "partsNow", "()I"⟩, 22), (⟨"IharaZetaModel", "signOf", "(I)I"⟩, 22), (⟨"IharaZetaModel", "walksOf", "(ZI)J"⟩, 22), (⟨"IharaZetaModel", "laysTraces", "(ZI[J)V"⟩, 22), (⟨"IharaZetaModel", "laysEdges", "(Z)V"⟩, 22), (⟨"IharaZetaModel", "goesOn", "()V"⟩, 22), (⟨"IharaZetaModel", "laysPrimes", "(I)V"⟩, 22)]
theorem lw_r2 : ∀ q ∈ lw_privs_2, lw_okq q := List.forall_mem_cons.mpr ⟨lw_p16, List.forall_mem_cons.mpr ⟨lw_p17, List.forall_mem_cons.mpr ⟨lw_p18, List.forall_mem_cons.mpr ⟨lw_p19, List.forall_mem_cons.mpr ⟨lw_p20, List.forall_mem_cons.mpr ⟨lw_p21, List.forall_mem_cons.mpr ⟨lw_p22, List.forall_mem_cons.mpr ⟨lw_p23, List.forall_mem_cons.mpr ⟨lw_p24, List.forall_mem_cons.mpr ⟨lw_p25, List.forall_mem_cons.mpr ⟨lw_p26, List.forall_mem_cons.mpr ⟨lw_p27, List.forall_mem_cons.mpr ⟨lw_p28, List.forall_mem_cons.mpr ⟨lw_p29, List.forall_mem_cons.mpr ⟨lw_p30, List.forall_mem_cons.mpr ⟨lw_p31, fun _ h => absurd h List.not_mem_nil⟩⟩⟩⟩⟩⟩⟩⟩⟩⟩⟩⟩⟩⟩⟩⟩
theorem lw_p32 : lw_okq (⟨"IharaZetaModel", "finds", "(II)Z"⟩, 22) := ⟨⟨by decide +kernel, by decide +kernel⟩, List.mem_of_getElem? (i := 598) (by decide +kernel), List.mem_of_getElem? (i := 839) (by decide +kernel), List.mem_of_getElem? (i := 840) (by decide +kernel)⟩
theorem lw_p33 : lw_okq (⟨"IharaZetaModel", "isFirst", "(I)Z"⟩, 22) := ⟨⟨by decide +kernel, by decide +kernel⟩, List.mem_of_getElem? (i := 598) (by decide +kernel), List.mem_of_getElem? (i := 843) (by decide +kernel), List.mem_of_getElem? (i := 844) (by decide +kernel)⟩
theorem lw_p34 : lw_okq (⟨"IharaZetaModel", "laysEdgePoly", "()V"⟩, 22) := ⟨⟨by decide +kernel, by decide +kernel⟩, List.mem_of_getElem? (i := 598) (by decide +kernel), List.mem_of_getElem? (i := 855) (by decide +kernel), List.mem_of_getElem? (i := 856) (by decide +kernel)⟩
theorem lw_p35 : lw_okq (⟨"IharaZetaModel", "laysPoly", "()V"⟩, 22) := ⟨⟨by decide +kernel, by decide +kernel⟩, List.mem_of_getElem? (i := 598) (by decide +kernel), List.mem_of_getElem? (i := 859) (by decide +kernel), List.mem_of_getElem? (i := 860) (by decide +kernel)⟩
theorem lw_p36 : lw_okq (⟨"IharaZetaModel", "clears", "([J)V"⟩, 22) := ⟨⟨by decide +kernel, by decide +kernel⟩, List.mem_of_getElem? (i := 598) (by decide +kernel), List.mem_of_getElem? (i := 863) (by decide +kernel), List.mem_of_getElem? (i := 864) (by decide +kernel)⟩
theorem lw_p37 : lw_okq (⟨"IharaZetaModel", "laysStep", "(I)V"⟩, 22) := ⟨⟨by decide +kernel, by decide +kernel⟩, List.mem_of_getElem? (i := 598) (by decide +kernel), List.mem_of_getElem? (i := 867) (by decide +kernel), List.mem_of_getElem? (i := 868) (by decide +kernel)⟩
theorem lw_p38 : lw_okq (⟨"IharaZetaModel", "laysVertices", "()V"⟩, 22) := ⟨⟨by decide +kernel, by decide +kernel⟩, List.mem_of_getElem? (i := 598) (by decide +kernel), List.mem_of_getElem? (i := 879) (by decide +kernel), List.mem_of_getElem? (i := 880) (by decide +kernel)⟩
theorem lw_p39 : lw_okq (⟨"IharaZetaModel", "laysBassPoly", "()V"⟩, 22) := ⟨⟨by decide +kernel, by decide +kernel⟩, List.mem_of_getElem? (i := 598) (by decide +kernel), List.mem_of_getElem? (i := 887) (by decide +kernel), List.mem_of_getElem? (i := 888) (by decide +kernel)⟩
theorem lw_p40 : lw_okq (⟨"IharaZetaModel", "laysTrees", "()V"⟩, 22) := ⟨⟨by decide +kernel, by decide +kernel⟩, List.mem_of_getElem? (i := 598) (by decide +kernel), List.mem_of_getElem? (i := 911) (by decide +kernel), List.mem_of_getElem? (i := 912) (by decide +kernel)⟩
def lw_privs_3 : List (MethodName × Nat) := [(⟨"IharaZetaModel", "finds", "(II)Z"⟩, 22), (⟨"IharaZetaModel", "isFirst", "(I)Z"⟩, 22), (⟨"IharaZetaModel", "laysEdgePoly", "()V"⟩, 22), (⟨"IharaZetaModel", "laysPoly", "()V"⟩, 22), (⟨"IharaZetaModel", "clears", "([J)V"⟩, 22), (⟨"IharaZetaModel", "laysStep", "(I)V"⟩, 22), (⟨"IharaZetaModel", "laysVertices", "()V"⟩, 22), (⟨"IharaZetaModel", "laysBassPoly", "()V"⟩, 22), (⟨"IharaZetaModel", "laysTrees", "()V"⟩, 22)]
theorem lw_r3 : ∀ q ∈ lw_privs_3, lw_okq q := List.forall_mem_cons.mpr ⟨lw_p32, List.forall_mem_cons.mpr ⟨lw_p33, List.forall_mem_cons.mpr ⟨lw_p34, List.forall_mem_cons.mpr ⟨lw_p35, List.forall_mem_cons.mpr ⟨lw_p36, List.forall_mem_cons.mpr ⟨lw_p37, List.forall_mem_cons.mpr ⟨lw_p38, List.forall_mem_cons.mpr ⟨lw_p39, List.forall_mem_cons.mpr ⟨lw_p40, fun _ h => absurd h List.not_mem_nil⟩⟩⟩⟩⟩⟩⟩⟩⟩
def lw_privs : List (MethodName × Nat) := lw_privs_1 ++ (lw_privs_2 ++ (lw_privs_3))
def lw_tbl : List Cond := k2_sels lw_privs ++ tables_1
theorem lw_privs_ok : ∀ q ∈ lw_privs, lw_okq q := by
  show ∀ q ∈ lw_privs_1 ++ (lw_privs_2 ++ (lw_privs_3)), lw_okq q
  exact List.forall_mem_append.mpr ⟨lw_r1, List.forall_mem_append.mpr ⟨lw_r2, lw_r3⟩⟩
-- ===== end of PART A; then your names; then what follows =====
def va_AOA (t : FieldType) (U : State) : Prop := (Cond.arrayOver (.array t)).before #[] U = true
theorem va_AOA.of {t : FieldType} {A : Array Value} {U : State} (h : (Cond.arrayOver (.array t)).before A U = true) : va_AOA t U := h
theorem va_AOA.use {t : FieldType} {A : Array Value} {U : State} (h : va_AOA t U) : (Cond.arrayOver (.array t)).before A U = true := h
/-! ===== BEGIN words of one list among another's, by their places ===== -/
theorem goodIn_r {big : List Cond} (ws : List Cond) (ps : List Nat) (hp : ws = ps.filterMap (fun i => big[i]?)) (h : ws.all goodWord = true) : GoodIn big ws := by
  intro w hw
  have h1 := List.all_eq_true.mp h w hw
  rw [hp] at hw
  obtain ⟨i, -, hi⟩ := List.mem_filterMap.mp hw
  have hm : w ∈ big := by first | exact List.mem_of_getElem? hi | exact List.getElem?_mem hi
  exact ⟨hm, good_of_word h1⟩
theorem goodIn_app {big a b : List Cond} (ha : GoodIn big a) (hb : GoodIn big b) : GoodIn big (a ++ b) := fun w h => (List.mem_append.mp h).elim (ha w) (hb w)
theorem goodIn_ca {big a b : List Cond} {c : Cond} (ha : GoodIn big (c :: a)) (hb : GoodIn big b) : GoodIn big (c :: (a ++ b)) := fun w h => (List.mem_cons.mp h).elim (fun e => ha w (List.mem_cons.mpr (Or.inl e))) (fun h => (List.mem_append.mp h).elim (fun h => ha w (List.mem_cons.mpr (Or.inr h))) (hb w))
theorem goodIn_sub {big ws : List Cond} (hm : ∀ w ∈ ws, w ∈ big) (h : ws.all goodWord = true) : GoodIn big ws := fun w hw => ⟨hm w hw, good_of_word (List.all_eq_true.mp h w hw)⟩
/-! ===== END ===== -/
/-! ===== BEGIN new T[n][m]: the outer array a place, the inner ones among the pooled ===== -/
/-- f, but v at every address of l -/
def vr_up {α : Type} (f : Nat → α) (l : List Nat) (v : α) : Nat → α := fun a => if a ∈ l then v else f a
theorem vr_up_in {α : Type} {f : Nat → α} {l : List Nat} {v : α} {a : Nat} (h : a ∈ l) : vr_up f l v a = v := if_pos h
theorem vr_up_ne {α : Type} {f : Nat → α} {l : List Nat} {v : α} {a : Nat} (h : a ∉ l) : vr_up f l v a = f a := if_neg h
theorem vr_rows {L l : List Nat} {f : Nat → va_E} {e : va_E} (h : ∀ a, a ∈ l → a ∉ L) : va_pl L f ++ l.map (fun a => (a, e)) = va_pl (L ++ l) (vr_up f l e) := by
  unfold va_pl
  rw [List.map_append]
  congr 1
  · apply List.map_congr_left
    intro a ha
    rw [vr_up_ne (fun q => h a q ha)]
  · apply List.map_congr_left
    intro a ha
    rw [vr_up_in ha]
theorem vr_lay {X rows : va_W} {x : Nat × va_E} {pl : va_W} {D : va_G} {cl : List vw_C} {H : Heap} (hP : va_P D cl (((X ++ pl) ++ [x]) ++ rows) H) : va_P D cl ((X ++ [x]) ++ (pl ++ rows)) H := by
  rw [List.append_assoc (X ++ pl)] at hP
  have h := va_P.swap hP
  rw [← List.append_assoc X] at h
  have h2 := va_P.swap h
  rw [List.append_assoc (X ++ [x])] at h2
  exact h2
theorem vr_layD {X rows : va_W} {x : Nat × va_E} {pl : va_W} {A : Nat → Prop} (hD : va_D A (((X ++ pl) ++ [x]) ++ rows)) : va_D A ((X ++ [x]) ++ (pl ++ rows)) := by
  rw [List.append_assoc (X ++ pl)] at hD
  have h := va_D.swap hD
  rw [← List.append_assoc X] at h
  have h2 := va_D.swap h
  rw [List.append_assoc (X ++ [x])] at h2
  exact h2
theorem vr_outer (c : ClassId) (N h0 : Nat) : ∀ i : Nat, Jvm.Free.Multi.outerC c N h0 i = arrV c N (fun j => va_rf (if j < i then some (h0 + 1 + j) else none))
  | 0 => by
    show ({ cls := c, slots := Array.replicate N .null, vm := .none } : Cell) = _
    rw [arrV_new]
    refine congrArg (arrV c N) (funext fun j => ?_)
    simp [va_rf]
  | i + 1 => by
    show (Jvm.Free.Multi.outerC c N h0 i).setSlot i (.ref (h0 + 1 + i)) = _
    rw [vr_outer c N h0 i, arrV_store]
    refine congrArg (arrV c N) (funext fun j => ?_)
    by_cases e : j = i
    · subst e
      simp [updV, va_rf]
    · by_cases h : j < i
      · simp [updV, e, h, Nat.lt_succ_of_lt h]
      · simp [updV, e, h, show ¬ j < i + 1 by omega]
section VGM
variable {p : Program} {l : Launch} {e : Env} {R : Room} {s : State} {m : MethodId} {args : Array Value} {below : List Frame} {meth : Method} {c : Code} {H : Heap} {locs : List Loc} {cells slots : Nat} {Q : State → Prop}
variable {cc : ByteArray} {pc : Nat} {ls : Array Slot} {rest : List Value} {D : va_G} {cl : List vw_C} {A : Nat → Prop} {a : Nat} {tys : List (ClassId × FieldType)} {ws : va_W} {H0 : Heap}
theorem va_mna {X : va_W} {L : List Nat} {f : Nat → va_E} {cc : ByteArray} (hexec : p.tables.exec = Jvm.exec) (hb : c.code = cc) {own : String} {index : Nat} {ty : FieldType} {cy : ClassId} (hown : s.vm.findClass own = some m.cls) (hclink : (Cond.classLink own index ("[" ++ (FieldType.array ty).toString)).before args s = true) (hover : va_AOA ty s) (harr : (Cond.arrayClass ty).before args s = true) (hcy : s.vm.findClass (FieldType.array ty).toString = some cy)
    (hK : va_K D cl tys s) (hP : va_P D cl (X ++ va_pl L f) H) (hD : va_D A (X ++ va_pl L f)) (hS : va_S A H0 H locs) (hA : ∀ q, H0.size ≤ q → A q) {n k : Int32} {N' K' : Nat} {z : vp_A} (hn : ¬ n < 0) (hk : ¬ k < 0) (hN : n.toNatClampNeg = N') (hM : k.toNatClampNeg = K')
    (hb1 : N' * 4 ≤ 536870912) (hb2 : K' * componentBytes ty ≤ 536870912) (hb3 : K' ≤ 536870912) (hdf : fits ty (defaultValue ty) = true) (hdd : (defaultValue ty).isDefault = true) (hcells : cells + (1 + N') ≤ R.cells) (hslots : slots + (N' + N' * K') ≤ R.slots) (hz : ∀ c : ClassId, Jvm.Free.Multi.innerC c K' (defaultValue ty) = vp_cell c z) (hdg : decode cc pc = .ok (.multianewarray index 2, 4))
    (kk : ∀ (q : Nat) (r : Nat → Nat) (cA : ClassId) (H1 : Heap), (∀ i j : Nat, i < N' → j < N' → r i = r j → i = j) → (∀ i : Nat, i < N' → r i ∉ L) → va_K D cl (tys ++ [(cA, .array ty)]) s →
      va_P D cl ((X ++ [(q, .inl (cA, N', .inr (.inr (.inr (.inr (fun i => if i < N' then some (r i) else none))))))]) ++ va_pl (L ++ (List.range N').map r) (vr_up f ((List.range N').map r) (.inl (cy, z)))) H1 → va_D A ((X ++ [(q, .inl (cA, N', .inr (.inr (.inr (.inr (fun i => if i < N' then some (r i) else none))))))]) ++ va_pl (L ++ (List.range N').map r) (vr_up f ((List.range N').map r) (.inl (cy, z)))) → va_S A H0 H1 locs →
      W p l e R s m args below meth c H1 locs (cells + 1 + N') (slots + N' + N' * K') Q (F0 m (pc + 4) ls (.ref q :: rest))) : W p l e R s m args below meth c H locs cells slots Q (F0 m pc ls (.int k :: .int n :: rest)) := by
  subst hN
  subst hM
  intro T hT Xs
  obtain ⟨vm₁, cA, comp, -, fA, fC, hO, -, X', step⟩ := Xs.multianewarray2F hexec hown hclink (va_AOA.use hover) harr (g := F0 m pc ls (.int k :: .int n :: rest)) rfl (by rw [hb]; exact hdg) rfl hn hk hb1 hb2 hb3 hdf hdd hcells hslots
  have ec : some cy = some comp := hcy.symm.trans fC
  cases ec
  generalize hF : Jvm.Free.Multi.fill (T.setVm vm₁) cA cy n.toNatClampNeg k.toNatClampNeg (defaultValue ty) n.toNatClampNeg = F at X' step
  have hTh : (T.setVm vm₁).heap = H := hT
  obtain ⟨f1, f2, -, -⟩ := Jvm.Free.Multi.fill_facts (T.setVm vm₁) cA cy n.toNatClampNeg k.toNatClampNeg (defaultValue ty) n.toNatClampNeg
  rw [hF, hTh] at f1 f2
  have hold : ∀ x : Nat, x < H.size → F.heap[x]? = H[x]? := fun x hx => by
    have := Jvm.Free.Multi.fill_old (T.setVm vm₁) cA cy n.toNatClampNeg k.toNatClampNeg (defaultValue ty) (a := x) (by rw [hTh]; exact hx) n.toNatClampNeg
    rw [hF, hTh] at this
    exact this
  have hrow : ∀ j : Nat, j < n.toNatClampNeg → F.heap[H.size + 1 + j]? = some (vp_cell cy z) := fun j hj => by
    have := Jvm.Free.Multi.fill_inner (T.setVm vm₁) cA cy n.toNatClampNeg k.toNatClampNeg (defaultValue ty) n.toNatClampNeg j hj
    rw [hF, hTh, hz] at this
    exact this
  have hout : Jvm.Free.Multi.outerC cA n.toNatClampNeg H.size n.toNatClampNeg = vp_cell cA (n.toNatClampNeg, .inr (.inr (.inr (.inr (fun i => if i < n.toNatClampNeg then some (H.size + 1 + i) else none))))) := by
    rw [vp_cell_q]
    exact vr_outer cA n.toNatClampNeg H.size n.toNatClampNeg
  rw [hout] at f2
  have hlt : ∀ a, a ∈ L → a < H.size := fun a ha => by
    obtain ⟨k9, hk9⟩ := va_pl_get (X := X) (f := f) ha
    exact (hP k9 _ hk9).lt
  have hnl : ∀ i : Nat, i < n.toNatClampNeg → H.size + 1 + i ∉ L := fun i _ h => by
    have := hlt _ h
    omega
  have hnm : ∀ a, a ∈ (List.range n.toNatClampNeg).map (fun i => H.size + 1 + i) → a ∉ L := fun a ha h => by
    obtain ⟨i, -, rfl⟩ := List.mem_map.mp ha
    have := hlt _ h
    omega
  have hP0 : va_P D cl (X ++ va_pl L f) F.heap := hP.kept (fun k9 x hx => hold x.1 ((hP k9 x hx).lt))
  have hP1 : va_P D cl ((X ++ va_pl L f) ++ [(H.size, .inl (cA, n.toNatClampNeg, .inr (.inr (.inr (.inr (fun i => if i < n.toNatClampNeg then some (H.size + 1 + i) else none))))))]) F.heap := hP0.app (fun k9 x hx => by
    have h0 : k9 < 1 := (List.getElem?_eq_some_iff.mp hx).1
    rw [show k9 = 0 by omega] at hx
    cases hx
    exact f2)
  have hP2 : va_P D cl (((X ++ va_pl L f) ++ [(H.size, .inl (cA, n.toNatClampNeg, .inr (.inr (.inr (.inr (fun i => if i < n.toNatClampNeg then some (H.size + 1 + i) else none))))))]) ++ ((List.range n.toNatClampNeg).map (fun i => H.size + 1 + i)).map (fun a => (a, .inl (cy, z)))) F.heap := hP1.app (fun k9 x hx => by
    obtain ⟨a, ha, rfl⟩ := List.mem_map.mp (List.mem_of_getElem? hx)
    obtain ⟨i, hi, rfl⟩ := List.mem_map.mp ha
    exact hrow i (List.mem_range.mp hi))
  have hD2 : va_D A (((X ++ va_pl L f) ++ [(H.size, .inl (cA, n.toNatClampNeg, .inr (.inr (.inr (.inr (fun i => if i < n.toNatClampNeg then some (H.size + 1 + i) else none))))))]) ++ ((List.range n.toNatClampNeg).map (fun i => H.size + 1 + i)).map (fun a => (a, .inl (cy, z)))) := by
    have hD1 := hD.push (e := .inl (cA, n.toNatClampNeg, .inr (.inr (.inr (.inr (fun i => if i < n.toNatClampNeg then some (H.size + 1 + i) else none)))))) hP rfl (hA _ hS.1)
    generalize hW1 : (X ++ va_pl L f) ++ [(H.size, .inl (cA, n.toNatClampNeg, .inr (.inr (.inr (.inr (fun i => if i < n.toNatClampNeg then some (H.size + 1 + i) else none))))))] = W1 at hD1 hP1 ⊢
    have hle : ∀ (k9 : Nat) (x : Nat × va_E), W1[k9]? = some x → x.1 ≤ H.size := fun k9 x hx => by
      rw [← hW1] at hx
      by_cases hl : k9 < (X ++ va_pl L f).length
      · rw [List.getElem?_append_left hl] at hx
        exact Nat.le_of_lt ((hP k9 x hx).lt)
      · rw [List.getElem?_append_right (by omega)] at hx
        have h0 : k9 - (X ++ va_pl L f).length < 1 := (List.getElem?_eq_some_iff.mp hx).1
        rw [show k9 - (X ++ va_pl L f).length = 0 by omega] at hx
        cases hx
        exact Nat.le_refl _
    have hr : ∀ (k9 : Nat) (x : Nat × va_E), (((List.range n.toNatClampNeg).map (fun i => H.size + 1 + i)).map (fun a => ((a, .inl (cy, z)) : Nat × va_E)))[k9]? = some x → x.1 = H.size + 1 + k9 := fun k9 x hx => by
      rw [List.getElem?_map, List.getElem?_map] at hx
      by_cases h9 : k9 < n.toNatClampNeg
      · rw [List.getElem?_range h9] at hx
        cases hx
        rfl
      · have hn0 : (List.range n.toNatClampNeg)[k9]? = none := List.getElem?_eq_none (by rw [List.length_range]; omega)
        rw [hn0] at hx
        cases hx
    refine ⟨fun i j x y hi hj hxy => ?_, fun k9 x hx => ?_⟩
    · by_cases h1 : i < W1.length <;> by_cases h2 : j < W1.length
      · rw [List.getElem?_append_left h1] at hi
        rw [List.getElem?_append_left h2] at hj
        exact hD1.1 i j x y hi hj hxy
      · rw [List.getElem?_append_left h1] at hi
        rw [List.getElem?_append_right (by omega)] at hj
        have := hle _ _ hi
        have := hr _ _ hj
        omega
      · rw [List.getElem?_append_right (by omega)] at hi
        rw [List.getElem?_append_left h2] at hj
        have := hle _ _ hj
        have := hr _ _ hi
        omega
      · rw [List.getElem?_append_right (by omega)] at hi hj
        have := hr _ _ hi
        have := hr _ _ hj
        omega
    · by_cases h1 : k9 < W1.length
      · rw [List.getElem?_append_left h1] at hx
        exact hD1.2 k9 x hx
      · rw [List.getElem?_append_right (by omega)] at hx
        have := hr _ _ hx
        exact hA _ (by have := hS.1; omega)
  have hAr : ArrOfT s cA (.array ty) := fun N9 z9 => by
    obtain ⟨-, k9, hk9, cm9, hkk9⟩ := (hO 0 0 0).1
    exact ⟨(fun q hq => by cases hq), k9, hk9, cm9, hkk9⟩
  have hK2 : va_K D cl (tys ++ [(cA, .array ty)]) s := ⟨hK.1, fun k9 x hx => by
    by_cases hl : k9 < tys.length
    · rw [List.getElem?_append_left hl] at hx
      exact hK.2 k9 x hx
    · rw [List.getElem?_append_right (by omega)] at hx
      have h0 : k9 - tys.length < 1 := (List.getElem?_eq_some_iff.mp hx).1
      rw [show k9 - tys.length = 0 by omega] at hx
      cases hx
      exact ⟨hAr, fA⟩⟩
  obtain ⟨t, a1, b1⟩ := kk H.size (fun i => H.size + 1 + i) cA F.heap (fun i j _ _ h => by have h9 : H.size + 1 + i = H.size + 1 + j := h; omega) hnl hK2 (by rw [← vr_rows hnm]; exact vr_lay hP2) (by rw [← vr_rows hnm]; exact vr_layD hD2) ⟨by rw [f1]; have := hS.1; omega, fun x h1 h2 => (hold x (Nat.lt_of_lt_of_le h1 hS.1)).trans (hS.2.1 x h1 h2), hS.2.2⟩ F rfl X'
  refine ⟨t, step t ?_, b1⟩
  have e : T.heap.size = H.size := by rw [hT]
  rw [e]
  exact a1
end VGM
/-! ===== END ===== -/
/-! ===== BEGIN printed: names, fields, word lists, decode rows ===== -/
def RX0 : String := "IharaZeta$EdgePolynomial"
def TX0 : u_T := fun k => match k with
  | 0 => ("IharaZeta$EdgePolynomial", "coefficients", "[J", true)
  | _ => ("IharaZeta$EdgePolynomial", "work", "[J", true)
def tyX0 : Nat → FieldType := fun k => match k with
  | 0 => .array .long
  | _ => .array .long
abbrev wsX00 : List Cond := u_ws RX0 TX0 2
theorem nmX0 : ∀ a, a < 2 → ∀ b, b < 2 → a ≠ b → (TX0 a).2.1 ≠ (TX0 b).2.1 := by decide +kernel
theorem tyX0_ok : ∀ k, k < 2 → parseFieldDescriptor (TX0 k).2.2.1 = some (tyX0 k) := by decide +kernel
abbrev cX0_init : ByteArray := prog_2_method_1_code
def yX0_init : MethodName := ⟨RX0, "<init>", "()V"⟩
abbrev cX0_makeFrom : ByteArray := prog_2_method_2_code
def yX0_makeFrom : MethodName := ⟨RX0, "makeFrom", "([J)V"⟩
abbrev cX0_inverseCoefficient : ByteArray := prog_2_method_3_code
def yX0_inverseCoefficient : MethodName := ⟨RX0, "inverseCoefficient", "(I)J"⟩
abbrev cX0_valueAt : ByteArray := prog_2_method_4_code
def yX0_valueAt : MethodName := ⟨RX0, "valueAt", "(J)J"⟩
abbrev cX0_coefficientAroundOne : ByteArray := prog_2_method_5_code
def yX0_coefficientAroundOne : MethodName := ⟨RX0, "coefficientAroundOne", "(I)J"⟩
abbrev cX0_highestPower : ByteArray := prog_2_method_6_code
def yX0_highestPower : MethodName := ⟨RX0, "highestPower", "()I"⟩
def RX1 : String := "IharaZeta$EdgeText"
def TX1 : u_T := fun k => match k with
  | 0 => ("IharaZeta$EdgeText", "length", "I", false)
  | 1 => ("IharaZeta$EdgeText", "characters", "[I", true)
  | 2 => ("IharaZeta$EdgeText", "stage", "I", false)
  | 3 => ("IharaZeta$EdgeText", "first", "I", false)
  | 4 => ("IharaZeta$EdgeText", "second", "I", false)
  | _ => ("IharaZeta$EdgeText", "sign", "I", false)
def tyX1 : Nat → FieldType := fun k => match k with
  | 0 => .int
  | 1 => .array .int
  | 2 => .int
  | 3 => .int
  | 4 => .int
  | _ => .int
abbrev wsX10 : List Cond := u_ws RX1 TX1 6
theorem nmX1 : ∀ a, a < 6 → ∀ b, b < 6 → a ≠ b → (TX1 a).2.1 ≠ (TX1 b).2.1 := by decide +kernel
theorem tyX1_ok : ∀ k, k < 6 → parseFieldDescriptor (TX1 k).2.2.1 = some (tyX1 k) := by decide +kernel
abbrev cX1_init : ByteArray := prog_3_method_1_code
def yX1_init : MethodName := ⟨RX1, "<init>", "()V"⟩
abbrev cX1_append : ByteArray := prog_3_method_2_code
def yX1_append : MethodName := ⟨RX1, "append", "(I)V"⟩
abbrev cX1_readInto : ByteArray := prog_3_method_3_code
def yX1_readInto : MethodName := ⟨RX1, "readInto", "(LIharaZeta$Graph;)I"⟩
abbrev cX1_accept : ByteArray := prog_3_method_4_code
def yX1_accept : MethodName := ⟨RX1, "accept", "(ILIharaZeta$Graph;)Z"⟩
abbrev cX1_acceptFirst : ByteArray := prog_3_method_5_code
def yX1_acceptFirst : MethodName := ⟨RX1, "acceptFirst", "(ILIharaZeta$Graph;)Z"⟩
abbrev cX1_acceptSign : ByteArray := prog_3_method_6_code
def yX1_acceptSign : MethodName := ⟨RX1, "acceptSign", "(I)Z"⟩
abbrev cX1_acceptSecond : ByteArray := prog_3_method_7_code
def yX1_acceptSecond : MethodName := ⟨RX1, "acceptSecond", "(ILIharaZeta$Graph;)Z"⟩
abbrev cX1_acceptEnd : ByteArray := prog_3_method_8_code
def yX1_acceptEnd : MethodName := ⟨RX1, "acceptEnd", "(ILIharaZeta$Graph;)Z"⟩
def RX2 : String := "IharaZeta$Graph"
def TX2 : u_T := fun k => match k with
  | 0 => ("IharaZeta$Graph", "vertices", "I", false)
  | 1 => ("IharaZeta$Graph", "edges", "I", false)
  | 2 => ("IharaZeta$Graph", "firsts", "[I", true)
  | 3 => ("IharaZeta$Graph", "seconds", "[I", true)
  | _ => ("IharaZeta$Graph", "signs", "[I", true)
def tyX2 : Nat → FieldType := fun k => match k with
  | 0 => .int
  | 1 => .int
  | 2 => .array .int
  | 3 => .array .int
  | _ => .array .int
abbrev wsX20 : List Cond := u_ws RX2 TX2 5
theorem nmX2 : ∀ a, a < 5 → ∀ b, b < 5 → a ≠ b → (TX2 a).2.1 ≠ (TX2 b).2.1 := by decide +kernel
theorem tyX2_ok : ∀ k, k < 5 → parseFieldDescriptor (TX2 k).2.2.1 = some (tyX2 k) := by decide +kernel
abbrev cX2_init : ByteArray := prog_4_method_1_code
def yX2_init : MethodName := ⟨RX2, "<init>", "()V"⟩
abbrev cX2_makeEmpty : ByteArray := prog_4_method_2_code
def yX2_makeEmpty : MethodName := ⟨RX2, "makeEmpty", "(I)V"⟩
abbrev cX2_copyFrom : ByteArray := prog_4_method_3_code
def yX2_copyFrom : MethodName := ⟨RX2, "copyFrom", "(LIharaZeta$Graph;)V"⟩
abbrev cX2_isFull : ByteArray := prog_4_method_4_code
def yX2_isFull : MethodName := ⟨RX2, "isFull", "()Z"⟩
abbrev cX2_hasVertex : ByteArray := prog_4_method_5_code
def yX2_hasVertex : MethodName := ⟨RX2, "hasVertex", "(I)Z"⟩
abbrev cX2_hasEdge : ByteArray := prog_4_method_6_code
def yX2_hasEdge : MethodName := ⟨RX2, "hasEdge", "(I)Z"⟩
abbrev cX2_hasDirected : ByteArray := prog_4_method_7_code
def yX2_hasDirected : MethodName := ⟨RX2, "hasDirected", "(I)Z"⟩
abbrev cX2_append : ByteArray := prog_4_method_8_code
def yX2_append : MethodName := ⟨RX2, "append", "(III)V"⟩
abbrev cX2_delete : ByteArray := prog_4_method_9_code
def yX2_delete : MethodName := ⟨RX2, "delete", "(I)V"⟩
abbrev cX2_startOf : ByteArray := prog_4_method_10_code
def yX2_startOf : MethodName := ⟨RX2, "startOf", "(I)I"⟩
abbrev cX2_endOf : ByteArray := prog_4_method_11_code
def yX2_endOf : MethodName := ⟨RX2, "endOf", "(I)I"⟩
abbrev cX2_leadsOn : ByteArray := prog_4_method_12_code
def yX2_leadsOn : MethodName := ⟨RX2, "leadsOn", "(II)Z"⟩
abbrev cX2_edgesAt : ByteArray := prog_4_method_13_code
def yX2_edgesAt : MethodName := ⟨RX2, "edgesAt", "(I)I"⟩
abbrev cX2_edgesBetween : ByteArray := prog_4_method_14_code
def yX2_edgesBetween : MethodName := ⟨RX2, "edgesBetween", "(II)I"⟩
def RX3 : String := "IharaZeta$Grouping"
def TX3 : u_T := fun k => match k with
  | 0 => ("IharaZeta$Grouping", "groups", "[I", true)
  | _ => ("IharaZeta$Grouping", "sides", "[I", true)
def tyX3 : Nat → FieldType := fun k => match k with
  | 0 => .array .int
  | _ => .array .int
abbrev wsX30 : List Cond := u_ws RX3 TX3 2
theorem nmX3 : ∀ a, a < 2 → ∀ b, b < 2 → a ≠ b → (TX3 a).2.1 ≠ (TX3 b).2.1 := by decide +kernel
theorem tyX3_ok : ∀ k, k < 2 → parseFieldDescriptor (TX3 k).2.2.1 = some (tyX3 k) := by decide +kernel
abbrev cX3_init : ByteArray := prog_5_method_1_code
def yX3_init : MethodName := ⟨RX3, "<init>", "()V"⟩
abbrev cX3_countGroups : ByteArray := prog_5_method_2_code
def yX3_countGroups : MethodName := ⟨RX3, "countGroups", "(LIharaZeta$Graph;)I"⟩
abbrev cX3_canDivide : ByteArray := prog_5_method_3_code
def yX3_canDivide : MethodName := ⟨RX3, "canDivide", "(LIharaZeta$Graph;)Z"⟩
abbrev cX3_countTrees : ByteArray := prog_5_method_4_code
def yX3_countTrees : MethodName := ⟨RX3, "countTrees", "(LIharaZeta$Graph;)I"⟩
abbrev cX3_isForest : ByteArray := prog_5_method_5_code
def yX3_isForest : MethodName := ⟨RX3, "isForest", "(LIharaZeta$Graph;I)Z"⟩
abbrev cX3_separate : ByteArray := prog_5_method_6_code
def yX3_separate : MethodName := ⟨RX3, "separate", "()V"⟩
abbrev cX3_unite : ByteArray := prog_5_method_7_code
def yX3_unite : MethodName := ⟨RX3, "unite", "(LIharaZeta$Graph;I)Z"⟩
abbrev cX3_turnFor : ByteArray := prog_5_method_8_code
def yX3_turnFor : MethodName := ⟨RX3, "turnFor", "(LIharaZeta$Graph;I)I"⟩
def RX4 : String := "IharaZeta$History"
def TX4 : u_T := fun k => match k with
  | 0 => ("IharaZeta$History", "count", "I", false)
  | _ => ("IharaZeta$History", "saved", "[LIharaZeta$Graph;", true)
def tyX4 : Nat → FieldType := fun k => match k with
  | 0 => .int
  | _ => .array (.object "IharaZeta$Graph")
abbrev wsX40 : List Cond := u_ws RX4 TX4 2
theorem nmX4 : ∀ a, a < 2 → ∀ b, b < 2 → a ≠ b → (TX4 a).2.1 ≠ (TX4 b).2.1 := by decide +kernel
theorem tyX4_ok : ∀ k, k < 2 → parseFieldDescriptor (TX4 k).2.2.1 = some (tyX4 k) := by decide +kernel
abbrev cX4_init : ByteArray := prog_6_method_1_code
def yX4_init : MethodName := ⟨RX4, "<init>", "()V"⟩
abbrev cX4_save : ByteArray := prog_6_method_2_code
def yX4_save : MethodName := ⟨RX4, "save", "(LIharaZeta$Graph;)V"⟩
abbrev cX4_restore : ByteArray := prog_6_method_3_code
def yX4_restore : MethodName := ⟨RX4, "restore", "(LIharaZeta$Graph;)V"⟩
abbrev cX4_discardOldest : ByteArray := prog_6_method_4_code
def yX4_discardOldest : MethodName := ⟨RX4, "discardOldest", "()V"⟩
def RX5 : String := "IharaZeta$PrimeSearch"
def TX5 : u_T := fun k => match k with
  | 0 => ("IharaZeta$PrimeSearch", "word", "[I", true)
  | _ => ("IharaZeta$PrimeSearch", "toSkip", "I", false)
def tyX5 : Nat → FieldType := fun k => match k with
  | 0 => .array .int
  | _ => .int
abbrev wsX50 : List Cond := u_ws RX5 TX5 2
theorem nmX5 : ∀ a, a < 2 → ∀ b, b < 2 → a ≠ b → (TX5 a).2.1 ≠ (TX5 b).2.1 := by decide +kernel
theorem tyX5_ok : ∀ k, k < 2 → parseFieldDescriptor (TX5 k).2.2.1 = some (tyX5 k) := by decide +kernel
abbrev cX5_init : ByteArray := prog_7_method_1_code
def yX5_init : MethodName := ⟨RX5, "<init>", "()V"⟩
abbrev cX5_find : ByteArray := prog_7_method_2_code
def yX5_find : MethodName := ⟨RX5, "find", "(LIharaZeta$Graph;II)Z"⟩
abbrev cX5_signOfWord : ByteArray := prog_7_method_3_code
def yX5_signOfWord : MethodName := ⟨RX5, "signOfWord", "(LIharaZeta$Graph;I)I"⟩
abbrev cX5_extend : ByteArray := prog_7_method_4_code
def yX5_extend : MethodName := ⟨RX5, "extend", "(LIharaZeta$Graph;III)Z"⟩
abbrev cX5_isWanted : ByteArray := prog_7_method_5_code
def yX5_isWanted : MethodName := ⟨RX5, "isWanted", "(LIharaZeta$Graph;II)Z"⟩
def RX6 : String := "IharaZeta$VertexPolynomial"
def TX6 : u_T := fun k => match k with
  | 0 => ("IharaZeta$VertexPolynomial", "coefficients", "[J", true)
  | _ => ("IharaZeta$VertexPolynomial", "minors", "[[J", true)
def tyX6 : Nat → FieldType := fun k => match k with
  | 0 => .array .long
  | _ => .array (.array .long)
abbrev wsX60 : List Cond := u_ws RX6 TX6 2
theorem nmX6 : ∀ a, a < 2 → ∀ b, b < 2 → a ≠ b → (TX6 a).2.1 ≠ (TX6 b).2.1 := by decide +kernel
theorem tyX6_ok : ∀ k, k < 2 → parseFieldDescriptor (TX6 k).2.2.1 = some (tyX6 k) := by decide +kernel
abbrev cX6_init : ByteArray := prog_8_method_1_code
def yX6_init : MethodName := ⟨RX6, "<init>", "()V"⟩
abbrev cX6_makeFrom : ByteArray := prog_8_method_2_code
def yX6_makeFrom : MethodName := ⟨RX6, "makeFrom", "(LIharaZeta$Graph;)V"⟩
abbrev cX6_turnIntoBass : ByteArray := prog_8_method_3_code
def yX6_turnIntoBass : MethodName := ⟨RX6, "turnIntoBass", "(I)V"⟩
abbrev cX6_makeMinor : ByteArray := prog_8_method_4_code
def yX6_makeMinor : MethodName := ⟨RX6, "makeMinor", "(LIharaZeta$Graph;I)V"⟩
abbrev cX6_addProduct : ByteArray := prog_8_method_5_code
def yX6_addProduct : MethodName := ⟨RX6, "addProduct", "(LIharaZeta$Graph;IIJ[J[J)V"⟩
abbrev cX6_addShifted : ByteArray := prog_8_method_6_code
def yX6_addShifted : MethodName := ⟨RX6, "addShifted", "([JIJ[J)V"⟩
def RX7 : String := "IharaZeta$WalkCounter"
def TX7 : u_T := fun k => match k with
  | 0 => ("IharaZeta$WalkCounter", "closed", "[J", true)
  | 1 => ("IharaZeta$WalkCounter", "closedSigned", "[J", true)
  | 2 => ("IharaZeta$WalkCounter", "primitive", "[J", true)
  | 3 => ("IharaZeta$WalkCounter", "primitiveSigned", "[J", true)
  | 4 => ("IharaZeta$WalkCounter", "reached", "[J", true)
  | _ => ("IharaZeta$WalkCounter", "arrived", "[J", true)
def tyX7 : Nat → FieldType := fun k => match k with
  | 0 => .array .long
  | 1 => .array .long
  | 2 => .array .long
  | 3 => .array .long
  | 4 => .array .long
  | _ => .array .long
abbrev wsX70 : List Cond := u_ws RX7 TX7 6
theorem nmX7 : ∀ a, a < 6 → ∀ b, b < 6 → a ≠ b → (TX7 a).2.1 ≠ (TX7 b).2.1 := by decide +kernel
theorem tyX7_ok : ∀ k, k < 6 → parseFieldDescriptor (TX7 k).2.2.1 = some (tyX7 k) := by decide +kernel
abbrev cX7_init : ByteArray := prog_9_method_1_code
def yX7_init : MethodName := ⟨RX7, "<init>", "()V"⟩
abbrev cX7_countClosed : ByteArray := prog_9_method_2_code
def yX7_countClosed : MethodName := ⟨RX7, "countClosed", "(LIharaZeta$Graph;)V"⟩
abbrev cX7_countClosedSigned : ByteArray := prog_9_method_3_code
def yX7_countClosedSigned : MethodName := ⟨RX7, "countClosedSigned", "(LIharaZeta$Graph;)V"⟩
abbrev cX7_countPrimitive : ByteArray := prog_9_method_4_code
def yX7_countPrimitive : MethodName := ⟨RX7, "countPrimitive", "(LIharaZeta$Graph;)V"⟩
abbrev cX7_countPrimitiveSigned : ByteArray := prog_9_method_5_code
def yX7_countPrimitiveSigned : MethodName := ⟨RX7, "countPrimitiveSigned", "(LIharaZeta$Graph;)V"⟩
abbrev cX7_addReturns : ByteArray := prog_9_method_6_code
def yX7_addReturns : MethodName := ⟨RX7, "addReturns", "(LIharaZeta$Graph;Z[J)V"⟩
abbrev cX7_goOn : ByteArray := prog_9_method_7_code
def yX7_goOn : MethodName := ⟨RX7, "goOn", "(LIharaZeta$Graph;Z)V"⟩
def RX8 : String := "IharaZeta"
def TX8 : u_T := fun k => match k with
  | 0 => ("IharaZeta", "graph", "LIharaZeta$Graph;", true)
  | 1 => ("IharaZeta", "draft", "LIharaZeta$Graph;", true)
  | 2 => ("IharaZeta", "history", "LIharaZeta$History;", true)
  | 3 => ("IharaZeta", "text", "LIharaZeta$EdgeText;", true)
  | 4 => ("IharaZeta", "grouping", "LIharaZeta$Grouping;", true)
  | 5 => ("IharaZeta", "counter", "LIharaZeta$WalkCounter;", true)
  | 6 => ("IharaZeta", "search", "LIharaZeta$PrimeSearch;", true)
  | 7 => ("IharaZeta", "edgePolynomial", "LIharaZeta$EdgePolynomial;", true)
  | _ => ("IharaZeta", "vertexPolynomial", "LIharaZeta$VertexPolynomial;", true)
def tyX8 : Nat → FieldType := fun k => match k with
  | 0 => .object "IharaZeta$Graph"
  | 1 => .object "IharaZeta$Graph"
  | 2 => .object "IharaZeta$History"
  | 3 => .object "IharaZeta$EdgeText"
  | 4 => .object "IharaZeta$Grouping"
  | 5 => .object "IharaZeta$WalkCounter"
  | 6 => .object "IharaZeta$PrimeSearch"
  | 7 => .object "IharaZeta$EdgePolynomial"
  | _ => .object "IharaZeta$VertexPolynomial"
abbrev wsX80 : List Cond := u_ws RX8 TX8 9
theorem nmX8 : ∀ a, a < 9 → ∀ b, b < 9 → a ≠ b → (TX8 a).2.1 ≠ (TX8 b).2.1 := by decide +kernel
theorem tyX8_ok : ∀ k, k < 9 → parseFieldDescriptor (TX8 k).2.2.1 = some (tyX8 k) := by decide +kernel
abbrev cX8_init : ByteArray := prog_1_method_1_code
def yX8_init : MethodName := ⟨RX8, "<init>", "()V"⟩
abbrev cX8_configure : ByteArray := prog_1_method_2_code
def yX8_configure : MethodName := ⟨RX8, "configure", "(I)I"⟩
abbrev cX8_addEdge : ByteArray := prog_1_method_3_code
def yX8_addEdge : MethodName := ⟨RX8, "addEdge", "(III)I"⟩
abbrev cX8_removeEdge : ByteArray := prog_1_method_4_code
def yX8_removeEdge : MethodName := ⟨RX8, "removeEdge", "(I)I"⟩
abbrev cX8_flipSign : ByteArray := prog_1_method_5_code
def yX8_flipSign : MethodName := ⟨RX8, "flipSign", "(I)I"⟩
abbrev cX8_appendCharacter : ByteArray := prog_1_method_6_code
def yX8_appendCharacter : MethodName := ⟨RX8, "appendCharacter", "(I)I"⟩
abbrev cX8_clearText : ByteArray := prog_1_method_7_code
def yX8_clearText : MethodName := ⟨RX8, "clearText", "()I"⟩
abbrev cX8_loadGraph : ByteArray := prog_1_method_8_code
def yX8_loadGraph : MethodName := ⟨RX8, "loadGraph", "()I"⟩
abbrev cX8_undo : ByteArray := prog_1_method_9_code
def yX8_undo : MethodName := ⟨RX8, "undo", "()I"⟩
abbrev cX8_vertexCount : ByteArray := prog_1_method_10_code
def yX8_vertexCount : MethodName := ⟨RX8, "vertexCount", "()I"⟩
abbrev cX8_edgeCount : ByteArray := prog_1_method_11_code
def yX8_edgeCount : MethodName := ⟨RX8, "edgeCount", "()I"⟩
abbrev cX8_headOf : ByteArray := prog_1_method_12_code
def yX8_headOf : MethodName := ⟨RX8, "headOf", "(I)I"⟩
abbrev cX8_follows : ByteArray := prog_1_method_13_code
def yX8_follows : MethodName := ⟨RX8, "follows", "(II)I"⟩
abbrev cX8_degree : ByteArray := prog_1_method_14_code
def yX8_degree : MethodName := ⟨RX8, "degree", "(I)I"⟩
abbrev cX8_components : ByteArray := prog_1_method_15_code
def yX8_components : MethodName := ⟨RX8, "components", "()I"⟩
abbrev cX8_rank : ByteArray := prog_1_method_16_code
def yX8_rank : MethodName := ⟨RX8, "rank", "()I"⟩
abbrev cX8_isBalanced : ByteArray := prog_1_method_17_code
def yX8_isBalanced : MethodName := ⟨RX8, "isBalanced", "()I"⟩
abbrev cX8_walks : ByteArray := prog_1_method_18_code
def yX8_walks : MethodName := ⟨RX8, "walks", "(I)J"⟩
abbrev cX8_signedWalks : ByteArray := prog_1_method_19_code
def yX8_signedWalks : MethodName := ⟨RX8, "signedWalks", "(I)J"⟩
abbrev cX8_coverWalks : ByteArray := prog_1_method_20_code
def yX8_coverWalks : MethodName := ⟨RX8, "coverWalks", "(I)J"⟩
abbrev cX8_primes : ByteArray := prog_1_method_21_code
def yX8_primes : MethodName := ⟨RX8, "primes", "(I)J"⟩
abbrev cX8_positivePrimes : ByteArray := prog_1_method_22_code
def yX8_positivePrimes : MethodName := ⟨RX8, "positivePrimes", "(I)J"⟩
abbrev cX8_girth : ByteArray := prog_1_method_23_code
def yX8_girth : MethodName := ⟨RX8, "girth", "()I"⟩
abbrev cX8_period : ByteArray := prog_1_method_24_code
def yX8_period : MethodName := ⟨RX8, "period", "()I"⟩
abbrev cX8_primeEdge : ByteArray := prog_1_method_25_code
def yX8_primeEdge : MethodName := ⟨RX8, "primeEdge", "(III)I"⟩
abbrev cX8_primeSign : ByteArray := prog_1_method_26_code
def yX8_primeSign : MethodName := ⟨RX8, "primeSign", "(II)I"⟩
abbrev cX8_edgeCoefficient : ByteArray := prog_1_method_27_code
def yX8_edgeCoefficient : MethodName := ⟨RX8, "edgeCoefficient", "(I)J"⟩
abbrev cX8_signedCoefficient : ByteArray := prog_1_method_28_code
def yX8_signedCoefficient : MethodName := ⟨RX8, "signedCoefficient", "(I)J"⟩
abbrev cX8_vertexCoefficient : ByteArray := prog_1_method_29_code
def yX8_vertexCoefficient : MethodName := ⟨RX8, "vertexCoefficient", "(I)J"⟩
abbrev cX8_bassCoefficient : ByteArray := prog_1_method_30_code
def yX8_bassCoefficient : MethodName := ⟨RX8, "bassCoefficient", "(I)J"⟩
abbrev cX8_zetaCoefficient : ByteArray := prog_1_method_31_code
def yX8_zetaCoefficient : MethodName := ⟨RX8, "zetaCoefficient", "(I)J"⟩
abbrev cX8_edgeValue : ByteArray := prog_1_method_32_code
def yX8_edgeValue : MethodName := ⟨RX8, "edgeValue", "(I)J"⟩
abbrev cX8_taylorAtOne : ByteArray := prog_1_method_33_code
def yX8_taylorAtOne : MethodName := ⟨RX8, "taylorAtOne", "(I)J"⟩
abbrev cX8_edgeDegree : ByteArray := prog_1_method_34_code
def yX8_edgeDegree : MethodName := ⟨RX8, "edgeDegree", "()I"⟩
abbrev cX8_spanningTrees : ByteArray := prog_1_method_35_code
def yX8_spanningTrees : MethodName := ⟨RX8, "spanningTrees", "()I"⟩
abbrev cX8_makeEdgePolynomial : ByteArray := prog_1_method_36_code
def yX8_makeEdgePolynomial : MethodName := ⟨RX8, "makeEdgePolynomial", "()V"⟩
abbrev cX8_isWalkLength : ByteArray := prog_1_method_37_code
def yX8_isWalkLength : MethodName := ⟨RX8, "isWalkLength", "(I)Z"⟩
abbrev cX8_isPrimeLength : ByteArray := prog_1_method_38_code
def yX8_isPrimeLength : MethodName := ⟨RX8, "isPrimeLength", "(I)Z"⟩
abbrev cX8_isIndex : ByteArray := prog_1_method_39_code
def yX8_isIndex : MethodName := ⟨RX8, "isIndex", "(II)Z"⟩
abbrev cX8_commonDivisor : ByteArray := prog_1_method_40_code
def yX8_commonDivisor : MethodName := ⟨RX8, "commonDivisor", "(II)I"⟩
def RX9 : String := "IharaZetaModel"
def TX9 : u_T := fun k => match k with
  | 0 => ("IharaZetaModel", "now", "[I", true)
  | 1 => ("IharaZetaModel", "read", "[I", true)
  | 2 => ("IharaZetaModel", "past", "[I", true)
  | 3 => ("IharaZetaModel", "saved", "I", false)
  | 4 => ("IharaZetaModel", "text", "[I", true)
  | 5 => ("IharaZetaModel", "letters", "I", false)
  | 6 => ("IharaZetaModel", "stage", "I", false)
  | 7 => ("IharaZetaModel", "part", "[I", true)
  | 8 => ("IharaZetaModel", "size", "I", false)
  | 9 => ("IharaZetaModel", "matrix", "[J", true)
  | 10 => ("IharaZetaModel", "power", "[J", true)
  | 11 => ("IharaZetaModel", "product", "[J", true)
  | 12 => ("IharaZetaModel", "poly", "[J", true)
  | 13 => ("IharaZetaModel", "old", "[J", true)
  | 14 => ("IharaZetaModel", "step", "[J", true)
  | 15 => ("IharaZetaModel", "column", "[J", true)
  | 16 => ("IharaZetaModel", "moved", "[J", true)
  | 17 => ("IharaZetaModel", "traces", "[J", true)
  | 18 => ("IharaZetaModel", "signed", "[J", true)
  | 19 => ("IharaZetaModel", "plus", "[J", true)
  | 20 => ("IharaZetaModel", "minus", "[J", true)
  | _ => ("IharaZetaModel", "walk", "[I", true)
def tyX9 : Nat → FieldType := fun k => match k with
  | 0 => .array .int
  | 1 => .array .int
  | 2 => .array .int
  | 3 => .int
  | 4 => .array .int
  | 5 => .int
  | 6 => .int
  | 7 => .array .int
  | 8 => .int
  | 9 => .array .long
  | 10 => .array .long
  | 11 => .array .long
  | 12 => .array .long
  | 13 => .array .long
  | 14 => .array .long
  | 15 => .array .long
  | 16 => .array .long
  | 17 => .array .long
  | 18 => .array .long
  | 19 => .array .long
  | 20 => .array .long
  | _ => .array .int
abbrev wsX90 : List Cond := u_ws RX9 TX9 22
theorem nmX9 : ∀ a, a < 22 → ∀ b, b < 22 → a ≠ b → (TX9 a).2.1 ≠ (TX9 b).2.1 := by decide +kernel
theorem tyX9_ok : ∀ k, k < 22 → parseFieldDescriptor (TX9 k).2.2.1 = some (tyX9 k) := by decide +kernel
abbrev cX9_init : ByteArray := prog_11_method_1_code
def yX9_init : MethodName := ⟨RX9, "<init>", "()V"⟩
abbrev cX9_in : ByteArray := prog_11_method_3_code
def yX9_in : MethodName := ⟨RX9, "in", "(III)Z"⟩
abbrev cX9_isVertex : ByteArray := prog_11_method_4_code
def yX9_isVertex : MethodName := ⟨RX9, "isVertex", "(I)Z"⟩
abbrev cX9_isEdge : ByteArray := prog_11_method_5_code
def yX9_isEdge : MethodName := ⟨RX9, "isEdge", "(I)Z"⟩
abbrev cX9_isDirected : ByteArray := prog_11_method_6_code
def yX9_isDirected : MethodName := ⟨RX9, "isDirected", "(I)Z"⟩
abbrev cX9_save : ByteArray := prog_11_method_7_code
def yX9_save : MethodName := ⟨RX9, "save", "()V"⟩
abbrev cX9_configure : ByteArray := prog_11_method_8_code
def yX9_configure : MethodName := ⟨RX9, "configure", "(I)I"⟩
abbrev cX9_addEdge : ByteArray := prog_11_method_9_code
def yX9_addEdge : MethodName := ⟨RX9, "addEdge", "(III)I"⟩
abbrev cX9_removeEdge : ByteArray := prog_11_method_10_code
def yX9_removeEdge : MethodName := ⟨RX9, "removeEdge", "(I)I"⟩
abbrev cX9_flipSign : ByteArray := prog_11_method_11_code
def yX9_flipSign : MethodName := ⟨RX9, "flipSign", "(I)I"⟩
abbrev cX9_appendCharacter : ByteArray := prog_11_method_12_code
def yX9_appendCharacter : MethodName := ⟨RX9, "appendCharacter", "(I)I"⟩
abbrev cX9_clearText : ByteArray := prog_11_method_13_code
def yX9_clearText : MethodName := ⟨RX9, "clearText", "()I"⟩
abbrev cX9_takes : ByteArray := prog_11_method_14_code
def yX9_takes : MethodName := ⟨RX9, "takes", "(I)Z"⟩
abbrev cX9_reads : ByteArray := prog_11_method_15_code
def yX9_reads : MethodName := ⟨RX9, "reads", "()I"⟩
abbrev cX9_loadGraph : ByteArray := prog_11_method_16_code
def yX9_loadGraph : MethodName := ⟨RX9, "loadGraph", "()I"⟩
abbrev cX9_undo : ByteArray := prog_11_method_17_code
def yX9_undo : MethodName := ⟨RX9, "undo", "()I"⟩
abbrev cX9_vertexCount : ByteArray := prog_11_method_18_code
def yX9_vertexCount : MethodName := ⟨RX9, "vertexCount", "()I"⟩
abbrev cX9_edgeCount : ByteArray := prog_11_method_19_code
def yX9_edgeCount : MethodName := ⟨RX9, "edgeCount", "()I"⟩
abbrev cX9_endOf : ByteArray := prog_11_method_20_code
def yX9_endOf : MethodName := ⟨RX9, "endOf", "(II)I"⟩
abbrev cX9_signOf : ByteArray := prog_11_method_21_code
def yX9_signOf : MethodName := ⟨RX9, "signOf", "(I)I"⟩
abbrev cX9_isNext : ByteArray := prog_11_method_22_code
def yX9_isNext : MethodName := ⟨RX9, "isNext", "(II)Z"⟩
abbrev cX9_headOf : ByteArray := prog_11_method_23_code
def yX9_headOf : MethodName := ⟨RX9, "headOf", "(I)I"⟩
abbrev cX9_follows : ByteArray := prog_11_method_24_code
def yX9_follows : MethodName := ⟨RX9, "follows", "(II)I"⟩
abbrev cX9_degreeOf : ByteArray := prog_11_method_25_code
def yX9_degreeOf : MethodName := ⟨RX9, "degreeOf", "(I)I"⟩
abbrev cX9_degree : ByteArray := prog_11_method_26_code
def yX9_degree : MethodName := ⟨RX9, "degree", "(I)I"⟩
abbrev cX9_partsNow : ByteArray := prog_11_method_27_code
def yX9_partsNow : MethodName := ⟨RX9, "partsNow", "()I"⟩
abbrev cX9_components : ByteArray := prog_11_method_28_code
def yX9_components : MethodName := ⟨RX9, "components", "()I"⟩
abbrev cX9_rank : ByteArray := prog_11_method_29_code
def yX9_rank : MethodName := ⟨RX9, "rank", "()I"⟩
abbrev cX9_isBalanced : ByteArray := prog_11_method_30_code
def yX9_isBalanced : MethodName := ⟨RX9, "isBalanced", "()I"⟩
abbrev cX9_laysEdges : ByteArray := prog_11_method_31_code
def yX9_laysEdges : MethodName := ⟨RX9, "laysEdges", "(Z)V"⟩
abbrev cX9_laysVertices : ByteArray := prog_11_method_32_code
def yX9_laysVertices : MethodName := ⟨RX9, "laysVertices", "()V"⟩
abbrev cX9_laysTrees : ByteArray := prog_11_method_33_code
def yX9_laysTrees : MethodName := ⟨RX9, "laysTrees", "()V"⟩
abbrev cX9_clears : ByteArray := prog_11_method_34_code
def yX9_clears : MethodName := ⟨RX9, "clears", "([J)V"⟩
abbrev cX9_laysStep : ByteArray := prog_11_method_35_code
def yX9_laysStep : MethodName := ⟨RX9, "laysStep", "(I)V"⟩
abbrev cX9_laysPoly : ByteArray := prog_11_method_36_code
def yX9_laysPoly : MethodName := ⟨RX9, "laysPoly", "()V"⟩
abbrev cX9_laysEdgePoly : ByteArray := prog_11_method_37_code
def yX9_laysEdgePoly : MethodName := ⟨RX9, "laysEdgePoly", "()V"⟩
abbrev cX9_laysBassPoly : ByteArray := prog_11_method_38_code
def yX9_laysBassPoly : MethodName := ⟨RX9, "laysBassPoly", "()V"⟩
abbrev cX9_goesOn : ByteArray := prog_11_method_39_code
def yX9_goesOn : MethodName := ⟨RX9, "goesOn", "()V"⟩
abbrev cX9_laysTraces : ByteArray := prog_11_method_40_code
def yX9_laysTraces : MethodName := ⟨RX9, "laysTraces", "(ZI[J)V"⟩
abbrev cX9_isLength : ByteArray := prog_11_method_41_code
def yX9_isLength : MethodName := ⟨RX9, "isLength", "(I)Z"⟩
abbrev cX9_walksOf : ByteArray := prog_11_method_42_code
def yX9_walksOf : MethodName := ⟨RX9, "walksOf", "(ZI)J"⟩
abbrev cX9_walks : ByteArray := prog_11_method_43_code
def yX9_walks : MethodName := ⟨RX9, "walks", "(I)J"⟩
abbrev cX9_signedWalks : ByteArray := prog_11_method_44_code
def yX9_signedWalks : MethodName := ⟨RX9, "signedWalks", "(I)J"⟩
abbrev cX9_coverWalks : ByteArray := prog_11_method_45_code
def yX9_coverWalks : MethodName := ⟨RX9, "coverWalks", "(I)J"⟩
abbrev cX9_laysPrimes : ByteArray := prog_11_method_46_code
def yX9_laysPrimes : MethodName := ⟨RX9, "laysPrimes", "(I)V"⟩
abbrev cX9_primes : ByteArray := prog_11_method_47_code
def yX9_primes : MethodName := ⟨RX9, "primes", "(I)J"⟩
abbrev cX9_positivePrimes : ByteArray := prog_11_method_48_code
def yX9_positivePrimes : MethodName := ⟨RX9, "positivePrimes", "(I)J"⟩
abbrev cX9_girth : ByteArray := prog_11_method_49_code
def yX9_girth : MethodName := ⟨RX9, "girth", "()I"⟩
abbrev cX9_period : ByteArray := prog_11_method_50_code
def yX9_period : MethodName := ⟨RX9, "period", "()I"⟩
abbrev cX9_isFirst : ByteArray := prog_11_method_51_code
def yX9_isFirst : MethodName := ⟨RX9, "isFirst", "(I)Z"⟩
abbrev cX9_finds : ByteArray := prog_11_method_52_code
def yX9_finds : MethodName := ⟨RX9, "finds", "(II)Z"⟩
abbrev cX9_primeEdge : ByteArray := prog_11_method_53_code
def yX9_primeEdge : MethodName := ⟨RX9, "primeEdge", "(III)I"⟩
abbrev cX9_primeSign : ByteArray := prog_11_method_54_code
def yX9_primeSign : MethodName := ⟨RX9, "primeSign", "(II)I"⟩
abbrev cX9_edgeCoefficient : ByteArray := prog_11_method_55_code
def yX9_edgeCoefficient : MethodName := ⟨RX9, "edgeCoefficient", "(I)J"⟩
abbrev cX9_signedCoefficient : ByteArray := prog_11_method_56_code
def yX9_signedCoefficient : MethodName := ⟨RX9, "signedCoefficient", "(I)J"⟩
abbrev cX9_vertexCoefficient : ByteArray := prog_11_method_57_code
def yX9_vertexCoefficient : MethodName := ⟨RX9, "vertexCoefficient", "(I)J"⟩
abbrev cX9_bassCoefficient : ByteArray := prog_11_method_58_code
def yX9_bassCoefficient : MethodName := ⟨RX9, "bassCoefficient", "(I)J"⟩
abbrev cX9_zetaCoefficient : ByteArray := prog_11_method_59_code
def yX9_zetaCoefficient : MethodName := ⟨RX9, "zetaCoefficient", "(I)J"⟩
abbrev cX9_edgeValue : ByteArray := prog_11_method_60_code
def yX9_edgeValue : MethodName := ⟨RX9, "edgeValue", "(I)J"⟩
abbrev cX9_taylorAtOne : ByteArray := prog_11_method_61_code
def yX9_taylorAtOne : MethodName := ⟨RX9, "taylorAtOne", "(I)J"⟩
abbrev cX9_edgeDegree : ByteArray := prog_11_method_62_code
def yX9_edgeDegree : MethodName := ⟨RX9, "edgeDegree", "()I"⟩
abbrev cX9_spanningTrees : ByteArray := prog_11_method_63_code
def yX9_spanningTrees : MethodName := ⟨RX9, "spanningTrees", "()I"⟩
def RJ6 : String := "java/lang/Integer"
def TJ6 : u_T := fun k => match k with
  | _ => ("", "", "", false)
def tyJ6 : Nat → FieldType := fun k => match k with
  | _ => .int
abbrev wsJ60 : List Cond := u_ws RJ6 TJ6 0
theorem nmJ6 : ∀ a, a < 0 → ∀ b, b < 0 → a ≠ b → (TJ6 a).2.1 ≠ (TJ6 b).2.1 := by decide +kernel
theorem tyJ6_ok : ∀ k, k < 0 → parseFieldDescriptor (TJ6 k).2.2.1 = some (tyJ6 k) := by decide +kernel
abbrev cJ6_bitCount_0f7a4 : ByteArray := prog_12_method_49_code
def yJ6_bitCount_0f7a4 : MethodName := ⟨RJ6, "bitCount", "(I)I"⟩
def RJ10 : String := "java/lang/System"
def TJ10 : u_T := fun k => match k with
  | _ => ("", "", "", false)
def tyJ10 : Nat → FieldType := fun k => match k with
  | _ => .int
abbrev wsJ100 : List Cond := u_ws RJ10 TJ10 0
theorem nmJ10 : ∀ a, a < 0 → ∀ b, b < 0 → a ≠ b → (TJ10 a).2.1 ≠ (TJ10 b).2.1 := by decide +kernel
theorem tyJ10_ok : ∀ k, k < 0 → parseFieldDescriptor (TJ10 k).2.2.1 = some (tyJ10 k) := by decide +kernel
def RJ7 : String := "java/util/Arrays"
def TJ7 : u_T := fun k => match k with
  | _ => ("", "", "", false)
def tyJ7 : Nat → FieldType := fun k => match k with
  | _ => .int
abbrev wsJ70 : List Cond := u_ws RJ7 TJ7 0
theorem nmJ7 : ∀ a, a < 0 → ∀ b, b < 0 → a ≠ b → (TJ7 a).2.1 ≠ (TJ7 b).2.1 := by decide +kernel
theorem tyJ7_ok : ∀ k, k < 0 → parseFieldDescriptor (TJ7 k).2.2.1 = some (tyJ7 k) := by decide +kernel
abbrev cJ7_fill_d0a16 : ByteArray := prog_14_method_101_code
def yJ7_fill_d0a16 : MethodName := ⟨RJ7, "fill", "([JJ)V"⟩
def RL : String := "IharaZetaLaw"
abbrev cL_law : ByteArray := code
def yL_law : MethodName := ⟨RL, "law", "([I)Z"⟩
theorem inJ6 : ∀ w ∈ wsJ60, w ∈ lw_tbl := by decide +kernel
theorem inJ10 : ∀ w ∈ wsJ100, w ∈ lw_tbl := by decide +kernel
theorem inJ7 : ∀ w ∈ wsJ70, w ∈ lw_tbl := by decide +kernel
abbrev vwCl : List vw_C := [(RX0, TX0, 2), (RX1, TX1, 6), (RX2, TX2, 5), (RX3, TX3, 2), (RX4, TX4, 2), (RX5, TX5, 2), (RX6, TX6, 2), (RX7, TX7, 6), (RX8, TX8, 9), (RX9, TX9, 22)]
end
section
theorem dJ6_bitCount_0f7a4_0 : decode cJ6_bitCount_0f7a4 0 = .ok (.iload_n 0, 1) := by decide +kernel
theorem dJ6_bitCount_0f7a4_1 : decode cJ6_bitCount_0f7a4 1 = .ok (.iload_n 0, 1) := by decide +kernel
theorem dJ6_bitCount_0f7a4_2 : decode cJ6_bitCount_0f7a4 2 = .ok (.iconst 1, 1) := by decide +kernel
theorem dJ6_bitCount_0f7a4_3 : decode cJ6_bitCount_0f7a4 3 = .ok (.iushr, 1) := by decide +kernel
theorem dJ6_bitCount_0f7a4_4 : decode cJ6_bitCount_0f7a4 4 = .ok (.ldc_w 265, 3) := by decide +kernel
theorem dJ6_bitCount_0f7a4_7 : decode cJ6_bitCount_0f7a4 7 = .ok (.iand, 1) := by decide +kernel
theorem dJ6_bitCount_0f7a4_8 : decode cJ6_bitCount_0f7a4 8 = .ok (.isub, 1) := by decide +kernel
theorem dJ6_bitCount_0f7a4_9 : decode cJ6_bitCount_0f7a4 9 = .ok (.istore_n 0, 1) := by decide +kernel
theorem dJ6_bitCount_0f7a4_10 : decode cJ6_bitCount_0f7a4 10 = .ok (.iload_n 0, 1) := by decide +kernel
theorem dJ6_bitCount_0f7a4_11 : decode cJ6_bitCount_0f7a4 11 = .ok (.ldc_w 266, 3) := by decide +kernel
theorem dJ6_bitCount_0f7a4_14 : decode cJ6_bitCount_0f7a4 14 = .ok (.iand, 1) := by decide +kernel
theorem dJ6_bitCount_0f7a4_15 : decode cJ6_bitCount_0f7a4 15 = .ok (.iload_n 0, 1) := by decide +kernel
theorem dJ6_bitCount_0f7a4_16 : decode cJ6_bitCount_0f7a4 16 = .ok (.iconst 2, 1) := by decide +kernel
theorem dJ6_bitCount_0f7a4_17 : decode cJ6_bitCount_0f7a4 17 = .ok (.iushr, 1) := by decide +kernel
theorem dJ6_bitCount_0f7a4_18 : decode cJ6_bitCount_0f7a4 18 = .ok (.ldc_w 266, 3) := by decide +kernel
theorem dJ6_bitCount_0f7a4_21 : decode cJ6_bitCount_0f7a4 21 = .ok (.iand, 1) := by decide +kernel
theorem dJ6_bitCount_0f7a4_22 : decode cJ6_bitCount_0f7a4 22 = .ok (.iadd, 1) := by decide +kernel
theorem dJ6_bitCount_0f7a4_23 : decode cJ6_bitCount_0f7a4 23 = .ok (.istore_n 0, 1) := by decide +kernel
theorem dJ6_bitCount_0f7a4_24 : decode cJ6_bitCount_0f7a4 24 = .ok (.iload_n 0, 1) := by decide +kernel
theorem dJ6_bitCount_0f7a4_25 : decode cJ6_bitCount_0f7a4 25 = .ok (.iload_n 0, 1) := by decide +kernel
theorem dJ6_bitCount_0f7a4_26 : decode cJ6_bitCount_0f7a4 26 = .ok (.iconst 4, 1) := by decide +kernel
theorem dJ6_bitCount_0f7a4_27 : decode cJ6_bitCount_0f7a4 27 = .ok (.iushr, 1) := by decide +kernel
theorem dJ6_bitCount_0f7a4_28 : decode cJ6_bitCount_0f7a4 28 = .ok (.iadd, 1) := by decide +kernel
theorem dJ6_bitCount_0f7a4_29 : decode cJ6_bitCount_0f7a4 29 = .ok (.ldc_w 267, 3) := by decide +kernel
theorem dJ6_bitCount_0f7a4_32 : decode cJ6_bitCount_0f7a4 32 = .ok (.iand, 1) := by decide +kernel
theorem dJ6_bitCount_0f7a4_33 : decode cJ6_bitCount_0f7a4 33 = .ok (.istore_n 0, 1) := by decide +kernel
theorem dJ6_bitCount_0f7a4_34 : decode cJ6_bitCount_0f7a4 34 = .ok (.iload_n 0, 1) := by decide +kernel
theorem dJ6_bitCount_0f7a4_35 : decode cJ6_bitCount_0f7a4 35 = .ok (.iload_n 0, 1) := by decide +kernel
theorem dJ6_bitCount_0f7a4_36 : decode cJ6_bitCount_0f7a4 36 = .ok (.bipush 8, 2) := by decide +kernel
theorem dJ6_bitCount_0f7a4_38 : decode cJ6_bitCount_0f7a4 38 = .ok (.iushr, 1) := by decide +kernel
theorem dJ6_bitCount_0f7a4_39 : decode cJ6_bitCount_0f7a4 39 = .ok (.iadd, 1) := by decide +kernel
theorem dJ6_bitCount_0f7a4_40 : decode cJ6_bitCount_0f7a4 40 = .ok (.istore_n 0, 1) := by decide +kernel
theorem dJ6_bitCount_0f7a4_41 : decode cJ6_bitCount_0f7a4 41 = .ok (.iload_n 0, 1) := by decide +kernel
theorem dJ6_bitCount_0f7a4_42 : decode cJ6_bitCount_0f7a4 42 = .ok (.iload_n 0, 1) := by decide +kernel
theorem dJ6_bitCount_0f7a4_43 : decode cJ6_bitCount_0f7a4 43 = .ok (.bipush 16, 2) := by decide +kernel
theorem dJ6_bitCount_0f7a4_45 : decode cJ6_bitCount_0f7a4 45 = .ok (.iushr, 1) := by decide +kernel
theorem dJ6_bitCount_0f7a4_46 : decode cJ6_bitCount_0f7a4 46 = .ok (.iadd, 1) := by decide +kernel
theorem dJ6_bitCount_0f7a4_47 : decode cJ6_bitCount_0f7a4 47 = .ok (.istore_n 0, 1) := by decide +kernel
theorem dJ6_bitCount_0f7a4_48 : decode cJ6_bitCount_0f7a4 48 = .ok (.iload_n 0, 1) := by decide +kernel
theorem dJ6_bitCount_0f7a4_49 : decode cJ6_bitCount_0f7a4 49 = .ok (.bipush 63, 2) := by decide +kernel
theorem dJ6_bitCount_0f7a4_51 : decode cJ6_bitCount_0f7a4 51 = .ok (.iand, 1) := by decide +kernel
theorem dJ6_bitCount_0f7a4_52 : decode cJ6_bitCount_0f7a4 52 = .ok (.ireturn, 1) := by decide +kernel
end
section
theorem dJ7_fill_d0a16_0 : decode cJ7_fill_d0a16 0 = .ok (.iconst 0, 1) := by decide +kernel
theorem dJ7_fill_d0a16_1 : decode cJ7_fill_d0a16 1 = .ok (.istore_n 3, 1) := by decide +kernel
theorem dJ7_fill_d0a16_2 : decode cJ7_fill_d0a16 2 = .ok (.aload_n 0, 1) := by decide +kernel
theorem dJ7_fill_d0a16_3 : decode cJ7_fill_d0a16 3 = .ok (.arraylength, 1) := by decide +kernel
theorem dJ7_fill_d0a16_4 : decode cJ7_fill_d0a16 4 = .ok (.istore 4, 2) := by decide +kernel
theorem dJ7_fill_d0a16_6 : decode cJ7_fill_d0a16 6 = .ok (.iload_n 3, 1) := by decide +kernel
theorem dJ7_fill_d0a16_7 : decode cJ7_fill_d0a16 7 = .ok (.iload 4, 2) := by decide +kernel
theorem dJ7_fill_d0a16_9 : decode cJ7_fill_d0a16 9 = .ok (.if_icmp .ge 13, 3) := by decide +kernel
theorem dJ7_fill_d0a16_12 : decode cJ7_fill_d0a16 12 = .ok (.aload_n 0, 1) := by decide +kernel
theorem dJ7_fill_d0a16_13 : decode cJ7_fill_d0a16 13 = .ok (.iload_n 3, 1) := by decide +kernel
theorem dJ7_fill_d0a16_14 : decode cJ7_fill_d0a16 14 = .ok (.lload_n 1, 1) := by decide +kernel
theorem dJ7_fill_d0a16_15 : decode cJ7_fill_d0a16 15 = .ok (.lastore, 1) := by decide +kernel
theorem dJ7_fill_d0a16_16 : decode cJ7_fill_d0a16 16 = .ok (.iinc 3 1, 3) := by decide +kernel
theorem dJ7_fill_d0a16_19 : decode cJ7_fill_d0a16 19 = .ok (.goto (-13), 3) := by decide +kernel
theorem dJ7_fill_d0a16_22 : decode cJ7_fill_d0a16 22 = .ok (.return_, 1) := by decide +kernel
end
section
theorem dL_law_0 : decode cL_law 0 = .ok (.new 7, 3) := by decide +kernel
theorem dL_law_3 : decode cL_law 3 = .ok (.dup, 1) := by decide +kernel
theorem dL_law_4 : decode cL_law 4 = .ok (.invokespecial 9, 3) := by decide +kernel
theorem dL_law_7 : decode cL_law 7 = .ok (.astore_n 1, 1) := by decide +kernel
theorem dL_law_8 : decode cL_law 8 = .ok (.new 10, 3) := by decide +kernel
theorem dL_law_11 : decode cL_law 11 = .ok (.dup, 1) := by decide +kernel
theorem dL_law_12 : decode cL_law 12 = .ok (.invokespecial 12, 3) := by decide +kernel
theorem dL_law_15 : decode cL_law 15 = .ok (.astore_n 2, 1) := by decide +kernel
theorem dL_law_16 : decode cL_law 16 = .ok (.iconst 0, 1) := by decide +kernel
theorem dL_law_17 : decode cL_law 17 = .ok (.istore_n 3, 1) := by decide +kernel
theorem dL_law_18 : decode cL_law 18 = .ok (.iload_n 3, 1) := by decide +kernel
theorem dL_law_19 : decode cL_law 19 = .ok (.aload_n 0, 1) := by decide +kernel
theorem dL_law_20 : decode cL_law 20 = .ok (.arraylength, 1) := by decide +kernel
theorem dL_law_21 : decode cL_law 21 = .ok (.iconst 4, 1) := by decide +kernel
theorem dL_law_22 : decode cL_law 22 = .ok (.isub, 1) := by decide +kernel
theorem dL_law_23 : decode cL_law 23 = .ok (.if_icmp .gt 901, 3) := by decide +kernel
theorem dL_law_26 : decode cL_law 26 = .ok (.aload_n 0, 1) := by decide +kernel
theorem dL_law_27 : decode cL_law 27 = .ok (.iload_n 3, 1) := by decide +kernel
theorem dL_law_28 : decode cL_law 28 = .ok (.iaload, 1) := by decide +kernel
theorem dL_law_29 : decode cL_law 29 = .ok (.bipush 63, 2) := by decide +kernel
theorem dL_law_31 : decode cL_law 31 = .ok (.iand, 1) := by decide +kernel
theorem dL_law_32 : decode cL_law 32 = .ok (.tableswitch 886 0 33 #[152, 175, 218, 241, 264, 287, 300, 313, 326, 339, 352, 375, 408, 431, 444, 457, 470, 494, 518, 542, 566, 590, 603, 616, 659, 692, 716, 740, 764, 788, 812, 836, 860, 873], 152) := by decide +kernel
theorem dL_law_184 : decode cL_law 184 = .ok (.aload_n 1, 1) := by decide +kernel
theorem dL_law_185 : decode cL_law 185 = .ok (.aload_n 0, 1) := by decide +kernel
theorem dL_law_186 : decode cL_law 186 = .ok (.iload_n 3, 1) := by decide +kernel
theorem dL_law_187 : decode cL_law 187 = .ok (.iconst 1, 1) := by decide +kernel
theorem dL_law_188 : decode cL_law 188 = .ok (.iadd, 1) := by decide +kernel
theorem dL_law_189 : decode cL_law 189 = .ok (.iaload, 1) := by decide +kernel
theorem dL_law_190 : decode cL_law 190 = .ok (.invokevirtual 13, 3) := by decide +kernel
theorem dL_law_193 : decode cL_law 193 = .ok (.aload_n 2, 1) := by decide +kernel
theorem dL_law_194 : decode cL_law 194 = .ok (.aload_n 0, 1) := by decide +kernel
theorem dL_law_195 : decode cL_law 195 = .ok (.iload_n 3, 1) := by decide +kernel
theorem dL_law_196 : decode cL_law 196 = .ok (.iconst 1, 1) := by decide +kernel
theorem dL_law_197 : decode cL_law 197 = .ok (.iadd, 1) := by decide +kernel
theorem dL_law_198 : decode cL_law 198 = .ok (.iaload, 1) := by decide +kernel
theorem dL_law_199 : decode cL_law 199 = .ok (.invokevirtual 17, 3) := by decide +kernel
theorem dL_law_202 : decode cL_law 202 = .ok (.if_icmp .eq 716, 3) := by decide +kernel
theorem dL_law_205 : decode cL_law 205 = .ok (.iconst 0, 1) := by decide +kernel
theorem dL_law_206 : decode cL_law 206 = .ok (.ireturn, 1) := by decide +kernel
theorem dL_law_207 : decode cL_law 207 = .ok (.aload_n 1, 1) := by decide +kernel
theorem dL_law_208 : decode cL_law 208 = .ok (.aload_n 0, 1) := by decide +kernel
theorem dL_law_209 : decode cL_law 209 = .ok (.iload_n 3, 1) := by decide +kernel
theorem dL_law_210 : decode cL_law 210 = .ok (.iconst 1, 1) := by decide +kernel
theorem dL_law_211 : decode cL_law 211 = .ok (.iadd, 1) := by decide +kernel
theorem dL_law_212 : decode cL_law 212 = .ok (.iaload, 1) := by decide +kernel
theorem dL_law_213 : decode cL_law 213 = .ok (.aload_n 0, 1) := by decide +kernel
theorem dL_law_214 : decode cL_law 214 = .ok (.iload_n 3, 1) := by decide +kernel
theorem dL_law_215 : decode cL_law 215 = .ok (.iconst 2, 1) := by decide +kernel
theorem dL_law_216 : decode cL_law 216 = .ok (.iadd, 1) := by decide +kernel
theorem dL_law_217 : decode cL_law 217 = .ok (.iaload, 1) := by decide +kernel
theorem dL_law_218 : decode cL_law 218 = .ok (.aload_n 0, 1) := by decide +kernel
theorem dL_law_219 : decode cL_law 219 = .ok (.iload_n 3, 1) := by decide +kernel
theorem dL_law_220 : decode cL_law 220 = .ok (.iconst 3, 1) := by decide +kernel
theorem dL_law_221 : decode cL_law 221 = .ok (.iadd, 1) := by decide +kernel
theorem dL_law_222 : decode cL_law 222 = .ok (.iaload, 1) := by decide +kernel
theorem dL_law_223 : decode cL_law 223 = .ok (.invokevirtual 18, 3) := by decide +kernel
theorem dL_law_226 : decode cL_law 226 = .ok (.aload_n 2, 1) := by decide +kernel
theorem dL_law_227 : decode cL_law 227 = .ok (.aload_n 0, 1) := by decide +kernel
theorem dL_law_228 : decode cL_law 228 = .ok (.iload_n 3, 1) := by decide +kernel
theorem dL_law_229 : decode cL_law 229 = .ok (.iconst 1, 1) := by decide +kernel
theorem dL_law_230 : decode cL_law 230 = .ok (.iadd, 1) := by decide +kernel
theorem dL_law_231 : decode cL_law 231 = .ok (.iaload, 1) := by decide +kernel
theorem dL_law_232 : decode cL_law 232 = .ok (.aload_n 0, 1) := by decide +kernel
theorem dL_law_233 : decode cL_law 233 = .ok (.iload_n 3, 1) := by decide +kernel
theorem dL_law_234 : decode cL_law 234 = .ok (.iconst 2, 1) := by decide +kernel
theorem dL_law_235 : decode cL_law 235 = .ok (.iadd, 1) := by decide +kernel
theorem dL_law_236 : decode cL_law 236 = .ok (.iaload, 1) := by decide +kernel
theorem dL_law_237 : decode cL_law 237 = .ok (.aload_n 0, 1) := by decide +kernel
theorem dL_law_238 : decode cL_law 238 = .ok (.iload_n 3, 1) := by decide +kernel
theorem dL_law_239 : decode cL_law 239 = .ok (.iconst 3, 1) := by decide +kernel
theorem dL_law_240 : decode cL_law 240 = .ok (.iadd, 1) := by decide +kernel
theorem dL_law_241 : decode cL_law 241 = .ok (.iaload, 1) := by decide +kernel
theorem dL_law_242 : decode cL_law 242 = .ok (.invokevirtual 22, 3) := by decide +kernel
theorem dL_law_245 : decode cL_law 245 = .ok (.if_icmp .eq 673, 3) := by decide +kernel
theorem dL_law_248 : decode cL_law 248 = .ok (.iconst 0, 1) := by decide +kernel
theorem dL_law_249 : decode cL_law 249 = .ok (.ireturn, 1) := by decide +kernel
theorem dL_law_250 : decode cL_law 250 = .ok (.aload_n 1, 1) := by decide +kernel
theorem dL_law_251 : decode cL_law 251 = .ok (.aload_n 0, 1) := by decide +kernel
theorem dL_law_252 : decode cL_law 252 = .ok (.iload_n 3, 1) := by decide +kernel
theorem dL_law_253 : decode cL_law 253 = .ok (.iconst 1, 1) := by decide +kernel
theorem dL_law_254 : decode cL_law 254 = .ok (.iadd, 1) := by decide +kernel
theorem dL_law_255 : decode cL_law 255 = .ok (.iaload, 1) := by decide +kernel
theorem dL_law_256 : decode cL_law 256 = .ok (.invokevirtual 23, 3) := by decide +kernel
theorem dL_law_259 : decode cL_law 259 = .ok (.aload_n 2, 1) := by decide +kernel
theorem dL_law_260 : decode cL_law 260 = .ok (.aload_n 0, 1) := by decide +kernel
theorem dL_law_261 : decode cL_law 261 = .ok (.iload_n 3, 1) := by decide +kernel
theorem dL_law_262 : decode cL_law 262 = .ok (.iconst 1, 1) := by decide +kernel
theorem dL_law_263 : decode cL_law 263 = .ok (.iadd, 1) := by decide +kernel
theorem dL_law_264 : decode cL_law 264 = .ok (.iaload, 1) := by decide +kernel
theorem dL_law_265 : decode cL_law 265 = .ok (.invokevirtual 26, 3) := by decide +kernel
theorem dL_law_268 : decode cL_law 268 = .ok (.if_icmp .eq 650, 3) := by decide +kernel
theorem dL_law_271 : decode cL_law 271 = .ok (.iconst 0, 1) := by decide +kernel
theorem dL_law_272 : decode cL_law 272 = .ok (.ireturn, 1) := by decide +kernel
theorem dL_law_273 : decode cL_law 273 = .ok (.aload_n 1, 1) := by decide +kernel
theorem dL_law_274 : decode cL_law 274 = .ok (.aload_n 0, 1) := by decide +kernel
theorem dL_law_275 : decode cL_law 275 = .ok (.iload_n 3, 1) := by decide +kernel
theorem dL_law_276 : decode cL_law 276 = .ok (.iconst 1, 1) := by decide +kernel
theorem dL_law_277 : decode cL_law 277 = .ok (.iadd, 1) := by decide +kernel
theorem dL_law_278 : decode cL_law 278 = .ok (.iaload, 1) := by decide +kernel
theorem dL_law_279 : decode cL_law 279 = .ok (.invokevirtual 27, 3) := by decide +kernel
theorem dL_law_282 : decode cL_law 282 = .ok (.aload_n 2, 1) := by decide +kernel
theorem dL_law_283 : decode cL_law 283 = .ok (.aload_n 0, 1) := by decide +kernel
theorem dL_law_284 : decode cL_law 284 = .ok (.iload_n 3, 1) := by decide +kernel
theorem dL_law_285 : decode cL_law 285 = .ok (.iconst 1, 1) := by decide +kernel
theorem dL_law_286 : decode cL_law 286 = .ok (.iadd, 1) := by decide +kernel
theorem dL_law_287 : decode cL_law 287 = .ok (.iaload, 1) := by decide +kernel
theorem dL_law_288 : decode cL_law 288 = .ok (.invokevirtual 30, 3) := by decide +kernel
theorem dL_law_291 : decode cL_law 291 = .ok (.if_icmp .eq 627, 3) := by decide +kernel
theorem dL_law_294 : decode cL_law 294 = .ok (.iconst 0, 1) := by decide +kernel
theorem dL_law_295 : decode cL_law 295 = .ok (.ireturn, 1) := by decide +kernel
theorem dL_law_296 : decode cL_law 296 = .ok (.aload_n 1, 1) := by decide +kernel
theorem dL_law_297 : decode cL_law 297 = .ok (.aload_n 0, 1) := by decide +kernel
theorem dL_law_298 : decode cL_law 298 = .ok (.iload_n 3, 1) := by decide +kernel
theorem dL_law_299 : decode cL_law 299 = .ok (.iconst 1, 1) := by decide +kernel
theorem dL_law_300 : decode cL_law 300 = .ok (.iadd, 1) := by decide +kernel
theorem dL_law_301 : decode cL_law 301 = .ok (.iaload, 1) := by decide +kernel
theorem dL_law_302 : decode cL_law 302 = .ok (.invokevirtual 31, 3) := by decide +kernel
theorem dL_law_305 : decode cL_law 305 = .ok (.aload_n 2, 1) := by decide +kernel
theorem dL_law_306 : decode cL_law 306 = .ok (.aload_n 0, 1) := by decide +kernel
theorem dL_law_307 : decode cL_law 307 = .ok (.iload_n 3, 1) := by decide +kernel
theorem dL_law_308 : decode cL_law 308 = .ok (.iconst 1, 1) := by decide +kernel
theorem dL_law_309 : decode cL_law 309 = .ok (.iadd, 1) := by decide +kernel
theorem dL_law_310 : decode cL_law 310 = .ok (.iaload, 1) := by decide +kernel
theorem dL_law_311 : decode cL_law 311 = .ok (.invokevirtual 34, 3) := by decide +kernel
theorem dL_law_314 : decode cL_law 314 = .ok (.if_icmp .eq 604, 3) := by decide +kernel
theorem dL_law_317 : decode cL_law 317 = .ok (.iconst 0, 1) := by decide +kernel
theorem dL_law_318 : decode cL_law 318 = .ok (.ireturn, 1) := by decide +kernel
theorem dL_law_319 : decode cL_law 319 = .ok (.aload_n 1, 1) := by decide +kernel
theorem dL_law_320 : decode cL_law 320 = .ok (.invokevirtual 35, 3) := by decide +kernel
theorem dL_law_323 : decode cL_law 323 = .ok (.aload_n 2, 1) := by decide +kernel
theorem dL_law_324 : decode cL_law 324 = .ok (.invokevirtual 39, 3) := by decide +kernel
theorem dL_law_327 : decode cL_law 327 = .ok (.if_icmp .eq 591, 3) := by decide +kernel
theorem dL_law_330 : decode cL_law 330 = .ok (.iconst 0, 1) := by decide +kernel
theorem dL_law_331 : decode cL_law 331 = .ok (.ireturn, 1) := by decide +kernel
theorem dL_law_332 : decode cL_law 332 = .ok (.aload_n 1, 1) := by decide +kernel
theorem dL_law_333 : decode cL_law 333 = .ok (.invokevirtual 40, 3) := by decide +kernel
theorem dL_law_336 : decode cL_law 336 = .ok (.aload_n 2, 1) := by decide +kernel
theorem dL_law_337 : decode cL_law 337 = .ok (.invokevirtual 43, 3) := by decide +kernel
theorem dL_law_340 : decode cL_law 340 = .ok (.if_icmp .eq 578, 3) := by decide +kernel
theorem dL_law_343 : decode cL_law 343 = .ok (.iconst 0, 1) := by decide +kernel
theorem dL_law_344 : decode cL_law 344 = .ok (.ireturn, 1) := by decide +kernel
theorem dL_law_345 : decode cL_law 345 = .ok (.aload_n 1, 1) := by decide +kernel
theorem dL_law_346 : decode cL_law 346 = .ok (.invokevirtual 44, 3) := by decide +kernel
theorem dL_law_349 : decode cL_law 349 = .ok (.aload_n 2, 1) := by decide +kernel
theorem dL_law_350 : decode cL_law 350 = .ok (.invokevirtual 47, 3) := by decide +kernel
theorem dL_law_353 : decode cL_law 353 = .ok (.if_icmp .eq 565, 3) := by decide +kernel
theorem dL_law_356 : decode cL_law 356 = .ok (.iconst 0, 1) := by decide +kernel
theorem dL_law_357 : decode cL_law 357 = .ok (.ireturn, 1) := by decide +kernel
theorem dL_law_358 : decode cL_law 358 = .ok (.aload_n 1, 1) := by decide +kernel
theorem dL_law_359 : decode cL_law 359 = .ok (.invokevirtual 48, 3) := by decide +kernel
theorem dL_law_362 : decode cL_law 362 = .ok (.aload_n 2, 1) := by decide +kernel
theorem dL_law_363 : decode cL_law 363 = .ok (.invokevirtual 51, 3) := by decide +kernel
theorem dL_law_366 : decode cL_law 366 = .ok (.if_icmp .eq 552, 3) := by decide +kernel
theorem dL_law_369 : decode cL_law 369 = .ok (.iconst 0, 1) := by decide +kernel
theorem dL_law_370 : decode cL_law 370 = .ok (.ireturn, 1) := by decide +kernel
theorem dL_law_371 : decode cL_law 371 = .ok (.aload_n 1, 1) := by decide +kernel
theorem dL_law_372 : decode cL_law 372 = .ok (.invokevirtual 52, 3) := by decide +kernel
theorem dL_law_375 : decode cL_law 375 = .ok (.aload_n 2, 1) := by decide +kernel
theorem dL_law_376 : decode cL_law 376 = .ok (.invokevirtual 55, 3) := by decide +kernel
theorem dL_law_379 : decode cL_law 379 = .ok (.if_icmp .eq 539, 3) := by decide +kernel
theorem dL_law_382 : decode cL_law 382 = .ok (.iconst 0, 1) := by decide +kernel
theorem dL_law_383 : decode cL_law 383 = .ok (.ireturn, 1) := by decide +kernel
theorem dL_law_384 : decode cL_law 384 = .ok (.aload_n 1, 1) := by decide +kernel
theorem dL_law_385 : decode cL_law 385 = .ok (.aload_n 0, 1) := by decide +kernel
theorem dL_law_386 : decode cL_law 386 = .ok (.iload_n 3, 1) := by decide +kernel
theorem dL_law_387 : decode cL_law 387 = .ok (.iconst 1, 1) := by decide +kernel
theorem dL_law_388 : decode cL_law 388 = .ok (.iadd, 1) := by decide +kernel
theorem dL_law_389 : decode cL_law 389 = .ok (.iaload, 1) := by decide +kernel
theorem dL_law_390 : decode cL_law 390 = .ok (.invokevirtual 56, 3) := by decide +kernel
theorem dL_law_393 : decode cL_law 393 = .ok (.aload_n 2, 1) := by decide +kernel
theorem dL_law_394 : decode cL_law 394 = .ok (.aload_n 0, 1) := by decide +kernel
theorem dL_law_395 : decode cL_law 395 = .ok (.iload_n 3, 1) := by decide +kernel
theorem dL_law_396 : decode cL_law 396 = .ok (.iconst 1, 1) := by decide +kernel
theorem dL_law_397 : decode cL_law 397 = .ok (.iadd, 1) := by decide +kernel
theorem dL_law_398 : decode cL_law 398 = .ok (.iaload, 1) := by decide +kernel
theorem dL_law_399 : decode cL_law 399 = .ok (.invokevirtual 59, 3) := by decide +kernel
theorem dL_law_402 : decode cL_law 402 = .ok (.if_icmp .eq 516, 3) := by decide +kernel
theorem dL_law_405 : decode cL_law 405 = .ok (.iconst 0, 1) := by decide +kernel
theorem dL_law_406 : decode cL_law 406 = .ok (.ireturn, 1) := by decide +kernel
theorem dL_law_407 : decode cL_law 407 = .ok (.aload_n 1, 1) := by decide +kernel
theorem dL_law_408 : decode cL_law 408 = .ok (.aload_n 0, 1) := by decide +kernel
theorem dL_law_409 : decode cL_law 409 = .ok (.iload_n 3, 1) := by decide +kernel
theorem dL_law_410 : decode cL_law 410 = .ok (.iconst 1, 1) := by decide +kernel
theorem dL_law_411 : decode cL_law 411 = .ok (.iadd, 1) := by decide +kernel
theorem dL_law_412 : decode cL_law 412 = .ok (.iaload, 1) := by decide +kernel
theorem dL_law_413 : decode cL_law 413 = .ok (.aload_n 0, 1) := by decide +kernel
theorem dL_law_414 : decode cL_law 414 = .ok (.iload_n 3, 1) := by decide +kernel
theorem dL_law_415 : decode cL_law 415 = .ok (.iconst 2, 1) := by decide +kernel
theorem dL_law_416 : decode cL_law 416 = .ok (.iadd, 1) := by decide +kernel
theorem dL_law_417 : decode cL_law 417 = .ok (.iaload, 1) := by decide +kernel
theorem dL_law_418 : decode cL_law 418 = .ok (.invokevirtual 60, 3) := by decide +kernel
theorem dL_law_421 : decode cL_law 421 = .ok (.aload_n 2, 1) := by decide +kernel
theorem dL_law_422 : decode cL_law 422 = .ok (.aload_n 0, 1) := by decide +kernel
theorem dL_law_423 : decode cL_law 423 = .ok (.iload_n 3, 1) := by decide +kernel
theorem dL_law_424 : decode cL_law 424 = .ok (.iconst 1, 1) := by decide +kernel
theorem dL_law_425 : decode cL_law 425 = .ok (.iadd, 1) := by decide +kernel
theorem dL_law_426 : decode cL_law 426 = .ok (.iaload, 1) := by decide +kernel
theorem dL_law_427 : decode cL_law 427 = .ok (.aload_n 0, 1) := by decide +kernel
theorem dL_law_428 : decode cL_law 428 = .ok (.iload_n 3, 1) := by decide +kernel
theorem dL_law_429 : decode cL_law 429 = .ok (.iconst 2, 1) := by decide +kernel
theorem dL_law_430 : decode cL_law 430 = .ok (.iadd, 1) := by decide +kernel
theorem dL_law_431 : decode cL_law 431 = .ok (.iaload, 1) := by decide +kernel
theorem dL_law_432 : decode cL_law 432 = .ok (.invokevirtual 64, 3) := by decide +kernel
theorem dL_law_435 : decode cL_law 435 = .ok (.if_icmp .eq 483, 3) := by decide +kernel
theorem dL_law_438 : decode cL_law 438 = .ok (.iconst 0, 1) := by decide +kernel
theorem dL_law_439 : decode cL_law 439 = .ok (.ireturn, 1) := by decide +kernel
theorem dL_law_440 : decode cL_law 440 = .ok (.aload_n 1, 1) := by decide +kernel
theorem dL_law_441 : decode cL_law 441 = .ok (.aload_n 0, 1) := by decide +kernel
theorem dL_law_442 : decode cL_law 442 = .ok (.iload_n 3, 1) := by decide +kernel
theorem dL_law_443 : decode cL_law 443 = .ok (.iconst 1, 1) := by decide +kernel
theorem dL_law_444 : decode cL_law 444 = .ok (.iadd, 1) := by decide +kernel
theorem dL_law_445 : decode cL_law 445 = .ok (.iaload, 1) := by decide +kernel
theorem dL_law_446 : decode cL_law 446 = .ok (.invokevirtual 65, 3) := by decide +kernel
theorem dL_law_449 : decode cL_law 449 = .ok (.aload_n 2, 1) := by decide +kernel
theorem dL_law_450 : decode cL_law 450 = .ok (.aload_n 0, 1) := by decide +kernel
theorem dL_law_451 : decode cL_law 451 = .ok (.iload_n 3, 1) := by decide +kernel
theorem dL_law_452 : decode cL_law 452 = .ok (.iconst 1, 1) := by decide +kernel
theorem dL_law_453 : decode cL_law 453 = .ok (.iadd, 1) := by decide +kernel
theorem dL_law_454 : decode cL_law 454 = .ok (.iaload, 1) := by decide +kernel
theorem dL_law_455 : decode cL_law 455 = .ok (.invokevirtual 68, 3) := by decide +kernel
theorem dL_law_458 : decode cL_law 458 = .ok (.if_icmp .eq 460, 3) := by decide +kernel
theorem dL_law_461 : decode cL_law 461 = .ok (.iconst 0, 1) := by decide +kernel
theorem dL_law_462 : decode cL_law 462 = .ok (.ireturn, 1) := by decide +kernel
theorem dL_law_463 : decode cL_law 463 = .ok (.aload_n 1, 1) := by decide +kernel
theorem dL_law_464 : decode cL_law 464 = .ok (.invokevirtual 69, 3) := by decide +kernel
theorem dL_law_467 : decode cL_law 467 = .ok (.aload_n 2, 1) := by decide +kernel
theorem dL_law_468 : decode cL_law 468 = .ok (.invokevirtual 72, 3) := by decide +kernel
theorem dL_law_471 : decode cL_law 471 = .ok (.if_icmp .eq 447, 3) := by decide +kernel
theorem dL_law_474 : decode cL_law 474 = .ok (.iconst 0, 1) := by decide +kernel
theorem dL_law_475 : decode cL_law 475 = .ok (.ireturn, 1) := by decide +kernel
theorem dL_law_476 : decode cL_law 476 = .ok (.aload_n 1, 1) := by decide +kernel
theorem dL_law_477 : decode cL_law 477 = .ok (.invokevirtual 73, 3) := by decide +kernel
theorem dL_law_480 : decode cL_law 480 = .ok (.aload_n 2, 1) := by decide +kernel
theorem dL_law_481 : decode cL_law 481 = .ok (.invokevirtual 76, 3) := by decide +kernel
theorem dL_law_484 : decode cL_law 484 = .ok (.if_icmp .eq 434, 3) := by decide +kernel
theorem dL_law_487 : decode cL_law 487 = .ok (.iconst 0, 1) := by decide +kernel
theorem dL_law_488 : decode cL_law 488 = .ok (.ireturn, 1) := by decide +kernel
theorem dL_law_489 : decode cL_law 489 = .ok (.aload_n 1, 1) := by decide +kernel
theorem dL_law_490 : decode cL_law 490 = .ok (.invokevirtual 77, 3) := by decide +kernel
theorem dL_law_493 : decode cL_law 493 = .ok (.aload_n 2, 1) := by decide +kernel
theorem dL_law_494 : decode cL_law 494 = .ok (.invokevirtual 80, 3) := by decide +kernel
theorem dL_law_497 : decode cL_law 497 = .ok (.if_icmp .eq 421, 3) := by decide +kernel
theorem dL_law_500 : decode cL_law 500 = .ok (.iconst 0, 1) := by decide +kernel
theorem dL_law_501 : decode cL_law 501 = .ok (.ireturn, 1) := by decide +kernel
theorem dL_law_502 : decode cL_law 502 = .ok (.aload_n 1, 1) := by decide +kernel
theorem dL_law_503 : decode cL_law 503 = .ok (.aload_n 0, 1) := by decide +kernel
theorem dL_law_504 : decode cL_law 504 = .ok (.iload_n 3, 1) := by decide +kernel
theorem dL_law_505 : decode cL_law 505 = .ok (.iconst 1, 1) := by decide +kernel
theorem dL_law_506 : decode cL_law 506 = .ok (.iadd, 1) := by decide +kernel
theorem dL_law_507 : decode cL_law 507 = .ok (.iaload, 1) := by decide +kernel
theorem dL_law_508 : decode cL_law 508 = .ok (.invokevirtual 81, 3) := by decide +kernel
theorem dL_law_511 : decode cL_law 511 = .ok (.aload_n 2, 1) := by decide +kernel
theorem dL_law_512 : decode cL_law 512 = .ok (.aload_n 0, 1) := by decide +kernel
theorem dL_law_513 : decode cL_law 513 = .ok (.iload_n 3, 1) := by decide +kernel
theorem dL_law_514 : decode cL_law 514 = .ok (.iconst 1, 1) := by decide +kernel
theorem dL_law_515 : decode cL_law 515 = .ok (.iadd, 1) := by decide +kernel
theorem dL_law_516 : decode cL_law 516 = .ok (.iaload, 1) := by decide +kernel
theorem dL_law_517 : decode cL_law 517 = .ok (.invokevirtual 85, 3) := by decide +kernel
theorem dL_law_520 : decode cL_law 520 = .ok (.lcmp, 1) := by decide +kernel
theorem dL_law_521 : decode cL_law 521 = .ok (.ifCond .eq 397, 3) := by decide +kernel
theorem dL_law_524 : decode cL_law 524 = .ok (.iconst 0, 1) := by decide +kernel
theorem dL_law_525 : decode cL_law 525 = .ok (.ireturn, 1) := by decide +kernel
theorem dL_law_526 : decode cL_law 526 = .ok (.aload_n 1, 1) := by decide +kernel
theorem dL_law_527 : decode cL_law 527 = .ok (.aload_n 0, 1) := by decide +kernel
theorem dL_law_528 : decode cL_law 528 = .ok (.iload_n 3, 1) := by decide +kernel
theorem dL_law_529 : decode cL_law 529 = .ok (.iconst 1, 1) := by decide +kernel
theorem dL_law_530 : decode cL_law 530 = .ok (.iadd, 1) := by decide +kernel
theorem dL_law_531 : decode cL_law 531 = .ok (.iaload, 1) := by decide +kernel
theorem dL_law_532 : decode cL_law 532 = .ok (.invokevirtual 86, 3) := by decide +kernel
theorem dL_law_535 : decode cL_law 535 = .ok (.aload_n 2, 1) := by decide +kernel
theorem dL_law_536 : decode cL_law 536 = .ok (.aload_n 0, 1) := by decide +kernel
theorem dL_law_537 : decode cL_law 537 = .ok (.iload_n 3, 1) := by decide +kernel
theorem dL_law_538 : decode cL_law 538 = .ok (.iconst 1, 1) := by decide +kernel
theorem dL_law_539 : decode cL_law 539 = .ok (.iadd, 1) := by decide +kernel
theorem dL_law_540 : decode cL_law 540 = .ok (.iaload, 1) := by decide +kernel
theorem dL_law_541 : decode cL_law 541 = .ok (.invokevirtual 89, 3) := by decide +kernel
theorem dL_law_544 : decode cL_law 544 = .ok (.lcmp, 1) := by decide +kernel
theorem dL_law_545 : decode cL_law 545 = .ok (.ifCond .eq 373, 3) := by decide +kernel
theorem dL_law_548 : decode cL_law 548 = .ok (.iconst 0, 1) := by decide +kernel
theorem dL_law_549 : decode cL_law 549 = .ok (.ireturn, 1) := by decide +kernel
theorem dL_law_550 : decode cL_law 550 = .ok (.aload_n 1, 1) := by decide +kernel
theorem dL_law_551 : decode cL_law 551 = .ok (.aload_n 0, 1) := by decide +kernel
theorem dL_law_552 : decode cL_law 552 = .ok (.iload_n 3, 1) := by decide +kernel
theorem dL_law_553 : decode cL_law 553 = .ok (.iconst 1, 1) := by decide +kernel
theorem dL_law_554 : decode cL_law 554 = .ok (.iadd, 1) := by decide +kernel
theorem dL_law_555 : decode cL_law 555 = .ok (.iaload, 1) := by decide +kernel
theorem dL_law_556 : decode cL_law 556 = .ok (.invokevirtual 90, 3) := by decide +kernel
theorem dL_law_559 : decode cL_law 559 = .ok (.aload_n 2, 1) := by decide +kernel
theorem dL_law_560 : decode cL_law 560 = .ok (.aload_n 0, 1) := by decide +kernel
theorem dL_law_561 : decode cL_law 561 = .ok (.iload_n 3, 1) := by decide +kernel
theorem dL_law_562 : decode cL_law 562 = .ok (.iconst 1, 1) := by decide +kernel
theorem dL_law_563 : decode cL_law 563 = .ok (.iadd, 1) := by decide +kernel
theorem dL_law_564 : decode cL_law 564 = .ok (.iaload, 1) := by decide +kernel
theorem dL_law_565 : decode cL_law 565 = .ok (.invokevirtual 93, 3) := by decide +kernel
theorem dL_law_568 : decode cL_law 568 = .ok (.lcmp, 1) := by decide +kernel
theorem dL_law_569 : decode cL_law 569 = .ok (.ifCond .eq 349, 3) := by decide +kernel
theorem dL_law_572 : decode cL_law 572 = .ok (.iconst 0, 1) := by decide +kernel
theorem dL_law_573 : decode cL_law 573 = .ok (.ireturn, 1) := by decide +kernel
theorem dL_law_574 : decode cL_law 574 = .ok (.aload_n 1, 1) := by decide +kernel
theorem dL_law_575 : decode cL_law 575 = .ok (.aload_n 0, 1) := by decide +kernel
theorem dL_law_576 : decode cL_law 576 = .ok (.iload_n 3, 1) := by decide +kernel
theorem dL_law_577 : decode cL_law 577 = .ok (.iconst 1, 1) := by decide +kernel
theorem dL_law_578 : decode cL_law 578 = .ok (.iadd, 1) := by decide +kernel
theorem dL_law_579 : decode cL_law 579 = .ok (.iaload, 1) := by decide +kernel
theorem dL_law_580 : decode cL_law 580 = .ok (.invokevirtual 94, 3) := by decide +kernel
theorem dL_law_583 : decode cL_law 583 = .ok (.aload_n 2, 1) := by decide +kernel
theorem dL_law_584 : decode cL_law 584 = .ok (.aload_n 0, 1) := by decide +kernel
theorem dL_law_585 : decode cL_law 585 = .ok (.iload_n 3, 1) := by decide +kernel
theorem dL_law_586 : decode cL_law 586 = .ok (.iconst 1, 1) := by decide +kernel
theorem dL_law_587 : decode cL_law 587 = .ok (.iadd, 1) := by decide +kernel
theorem dL_law_588 : decode cL_law 588 = .ok (.iaload, 1) := by decide +kernel
theorem dL_law_589 : decode cL_law 589 = .ok (.invokevirtual 97, 3) := by decide +kernel
theorem dL_law_592 : decode cL_law 592 = .ok (.lcmp, 1) := by decide +kernel
theorem dL_law_593 : decode cL_law 593 = .ok (.ifCond .eq 325, 3) := by decide +kernel
theorem dL_law_596 : decode cL_law 596 = .ok (.iconst 0, 1) := by decide +kernel
theorem dL_law_597 : decode cL_law 597 = .ok (.ireturn, 1) := by decide +kernel
theorem dL_law_598 : decode cL_law 598 = .ok (.aload_n 1, 1) := by decide +kernel
theorem dL_law_599 : decode cL_law 599 = .ok (.aload_n 0, 1) := by decide +kernel
theorem dL_law_600 : decode cL_law 600 = .ok (.iload_n 3, 1) := by decide +kernel
theorem dL_law_601 : decode cL_law 601 = .ok (.iconst 1, 1) := by decide +kernel
theorem dL_law_602 : decode cL_law 602 = .ok (.iadd, 1) := by decide +kernel
theorem dL_law_603 : decode cL_law 603 = .ok (.iaload, 1) := by decide +kernel
theorem dL_law_604 : decode cL_law 604 = .ok (.invokevirtual 98, 3) := by decide +kernel
theorem dL_law_607 : decode cL_law 607 = .ok (.aload_n 2, 1) := by decide +kernel
theorem dL_law_608 : decode cL_law 608 = .ok (.aload_n 0, 1) := by decide +kernel
theorem dL_law_609 : decode cL_law 609 = .ok (.iload_n 3, 1) := by decide +kernel
theorem dL_law_610 : decode cL_law 610 = .ok (.iconst 1, 1) := by decide +kernel
theorem dL_law_611 : decode cL_law 611 = .ok (.iadd, 1) := by decide +kernel
theorem dL_law_612 : decode cL_law 612 = .ok (.iaload, 1) := by decide +kernel
theorem dL_law_613 : decode cL_law 613 = .ok (.invokevirtual 101, 3) := by decide +kernel
theorem dL_law_616 : decode cL_law 616 = .ok (.lcmp, 1) := by decide +kernel
theorem dL_law_617 : decode cL_law 617 = .ok (.ifCond .eq 301, 3) := by decide +kernel
theorem dL_law_620 : decode cL_law 620 = .ok (.iconst 0, 1) := by decide +kernel
theorem dL_law_621 : decode cL_law 621 = .ok (.ireturn, 1) := by decide +kernel
theorem dL_law_622 : decode cL_law 622 = .ok (.aload_n 1, 1) := by decide +kernel
theorem dL_law_623 : decode cL_law 623 = .ok (.invokevirtual 102, 3) := by decide +kernel
theorem dL_law_626 : decode cL_law 626 = .ok (.aload_n 2, 1) := by decide +kernel
theorem dL_law_627 : decode cL_law 627 = .ok (.invokevirtual 105, 3) := by decide +kernel
theorem dL_law_630 : decode cL_law 630 = .ok (.if_icmp .eq 288, 3) := by decide +kernel
theorem dL_law_633 : decode cL_law 633 = .ok (.iconst 0, 1) := by decide +kernel
theorem dL_law_634 : decode cL_law 634 = .ok (.ireturn, 1) := by decide +kernel
theorem dL_law_635 : decode cL_law 635 = .ok (.aload_n 1, 1) := by decide +kernel
theorem dL_law_636 : decode cL_law 636 = .ok (.invokevirtual 106, 3) := by decide +kernel
theorem dL_law_639 : decode cL_law 639 = .ok (.aload_n 2, 1) := by decide +kernel
theorem dL_law_640 : decode cL_law 640 = .ok (.invokevirtual 109, 3) := by decide +kernel
theorem dL_law_643 : decode cL_law 643 = .ok (.if_icmp .eq 275, 3) := by decide +kernel
theorem dL_law_646 : decode cL_law 646 = .ok (.iconst 0, 1) := by decide +kernel
theorem dL_law_647 : decode cL_law 647 = .ok (.ireturn, 1) := by decide +kernel
theorem dL_law_648 : decode cL_law 648 = .ok (.aload_n 1, 1) := by decide +kernel
theorem dL_law_649 : decode cL_law 649 = .ok (.aload_n 0, 1) := by decide +kernel
theorem dL_law_650 : decode cL_law 650 = .ok (.iload_n 3, 1) := by decide +kernel
theorem dL_law_651 : decode cL_law 651 = .ok (.iconst 1, 1) := by decide +kernel
theorem dL_law_652 : decode cL_law 652 = .ok (.iadd, 1) := by decide +kernel
theorem dL_law_653 : decode cL_law 653 = .ok (.iaload, 1) := by decide +kernel
theorem dL_law_654 : decode cL_law 654 = .ok (.aload_n 0, 1) := by decide +kernel
theorem dL_law_655 : decode cL_law 655 = .ok (.iload_n 3, 1) := by decide +kernel
theorem dL_law_656 : decode cL_law 656 = .ok (.iconst 2, 1) := by decide +kernel
theorem dL_law_657 : decode cL_law 657 = .ok (.iadd, 1) := by decide +kernel
theorem dL_law_658 : decode cL_law 658 = .ok (.iaload, 1) := by decide +kernel
theorem dL_law_659 : decode cL_law 659 = .ok (.aload_n 0, 1) := by decide +kernel
theorem dL_law_660 : decode cL_law 660 = .ok (.iload_n 3, 1) := by decide +kernel
theorem dL_law_661 : decode cL_law 661 = .ok (.iconst 3, 1) := by decide +kernel
theorem dL_law_662 : decode cL_law 662 = .ok (.iadd, 1) := by decide +kernel
theorem dL_law_663 : decode cL_law 663 = .ok (.iaload, 1) := by decide +kernel
theorem dL_law_664 : decode cL_law 664 = .ok (.invokevirtual 110, 3) := by decide +kernel
theorem dL_law_667 : decode cL_law 667 = .ok (.aload_n 2, 1) := by decide +kernel
theorem dL_law_668 : decode cL_law 668 = .ok (.aload_n 0, 1) := by decide +kernel
theorem dL_law_669 : decode cL_law 669 = .ok (.iload_n 3, 1) := by decide +kernel
theorem dL_law_670 : decode cL_law 670 = .ok (.iconst 1, 1) := by decide +kernel
theorem dL_law_671 : decode cL_law 671 = .ok (.iadd, 1) := by decide +kernel
theorem dL_law_672 : decode cL_law 672 = .ok (.iaload, 1) := by decide +kernel
theorem dL_law_673 : decode cL_law 673 = .ok (.aload_n 0, 1) := by decide +kernel
theorem dL_law_674 : decode cL_law 674 = .ok (.iload_n 3, 1) := by decide +kernel
theorem dL_law_675 : decode cL_law 675 = .ok (.iconst 2, 1) := by decide +kernel
theorem dL_law_676 : decode cL_law 676 = .ok (.iadd, 1) := by decide +kernel
theorem dL_law_677 : decode cL_law 677 = .ok (.iaload, 1) := by decide +kernel
theorem dL_law_678 : decode cL_law 678 = .ok (.aload_n 0, 1) := by decide +kernel
theorem dL_law_679 : decode cL_law 679 = .ok (.iload_n 3, 1) := by decide +kernel
theorem dL_law_680 : decode cL_law 680 = .ok (.iconst 3, 1) := by decide +kernel
theorem dL_law_681 : decode cL_law 681 = .ok (.iadd, 1) := by decide +kernel
theorem dL_law_682 : decode cL_law 682 = .ok (.iaload, 1) := by decide +kernel
theorem dL_law_683 : decode cL_law 683 = .ok (.invokevirtual 113, 3) := by decide +kernel
theorem dL_law_686 : decode cL_law 686 = .ok (.if_icmp .eq 232, 3) := by decide +kernel
theorem dL_law_689 : decode cL_law 689 = .ok (.iconst 0, 1) := by decide +kernel
theorem dL_law_690 : decode cL_law 690 = .ok (.ireturn, 1) := by decide +kernel
theorem dL_law_691 : decode cL_law 691 = .ok (.aload_n 1, 1) := by decide +kernel
theorem dL_law_692 : decode cL_law 692 = .ok (.aload_n 0, 1) := by decide +kernel
theorem dL_law_693 : decode cL_law 693 = .ok (.iload_n 3, 1) := by decide +kernel
theorem dL_law_694 : decode cL_law 694 = .ok (.iconst 1, 1) := by decide +kernel
theorem dL_law_695 : decode cL_law 695 = .ok (.iadd, 1) := by decide +kernel
theorem dL_law_696 : decode cL_law 696 = .ok (.iaload, 1) := by decide +kernel
theorem dL_law_697 : decode cL_law 697 = .ok (.aload_n 0, 1) := by decide +kernel
theorem dL_law_698 : decode cL_law 698 = .ok (.iload_n 3, 1) := by decide +kernel
theorem dL_law_699 : decode cL_law 699 = .ok (.iconst 2, 1) := by decide +kernel
theorem dL_law_700 : decode cL_law 700 = .ok (.iadd, 1) := by decide +kernel
theorem dL_law_701 : decode cL_law 701 = .ok (.iaload, 1) := by decide +kernel
theorem dL_law_702 : decode cL_law 702 = .ok (.invokevirtual 114, 3) := by decide +kernel
theorem dL_law_705 : decode cL_law 705 = .ok (.aload_n 2, 1) := by decide +kernel
theorem dL_law_706 : decode cL_law 706 = .ok (.aload_n 0, 1) := by decide +kernel
theorem dL_law_707 : decode cL_law 707 = .ok (.iload_n 3, 1) := by decide +kernel
theorem dL_law_708 : decode cL_law 708 = .ok (.iconst 1, 1) := by decide +kernel
theorem dL_law_709 : decode cL_law 709 = .ok (.iadd, 1) := by decide +kernel
theorem dL_law_710 : decode cL_law 710 = .ok (.iaload, 1) := by decide +kernel
theorem dL_law_711 : decode cL_law 711 = .ok (.aload_n 0, 1) := by decide +kernel
theorem dL_law_712 : decode cL_law 712 = .ok (.iload_n 3, 1) := by decide +kernel
theorem dL_law_713 : decode cL_law 713 = .ok (.iconst 2, 1) := by decide +kernel
theorem dL_law_714 : decode cL_law 714 = .ok (.iadd, 1) := by decide +kernel
theorem dL_law_715 : decode cL_law 715 = .ok (.iaload, 1) := by decide +kernel
theorem dL_law_716 : decode cL_law 716 = .ok (.invokevirtual 117, 3) := by decide +kernel
theorem dL_law_719 : decode cL_law 719 = .ok (.if_icmp .eq 199, 3) := by decide +kernel
theorem dL_law_722 : decode cL_law 722 = .ok (.iconst 0, 1) := by decide +kernel
theorem dL_law_723 : decode cL_law 723 = .ok (.ireturn, 1) := by decide +kernel
theorem dL_law_724 : decode cL_law 724 = .ok (.aload_n 1, 1) := by decide +kernel
theorem dL_law_725 : decode cL_law 725 = .ok (.aload_n 0, 1) := by decide +kernel
theorem dL_law_726 : decode cL_law 726 = .ok (.iload_n 3, 1) := by decide +kernel
theorem dL_law_727 : decode cL_law 727 = .ok (.iconst 1, 1) := by decide +kernel
theorem dL_law_728 : decode cL_law 728 = .ok (.iadd, 1) := by decide +kernel
theorem dL_law_729 : decode cL_law 729 = .ok (.iaload, 1) := by decide +kernel
theorem dL_law_730 : decode cL_law 730 = .ok (.invokevirtual 118, 3) := by decide +kernel
theorem dL_law_733 : decode cL_law 733 = .ok (.aload_n 2, 1) := by decide +kernel
theorem dL_law_734 : decode cL_law 734 = .ok (.aload_n 0, 1) := by decide +kernel
theorem dL_law_735 : decode cL_law 735 = .ok (.iload_n 3, 1) := by decide +kernel
theorem dL_law_736 : decode cL_law 736 = .ok (.iconst 1, 1) := by decide +kernel
theorem dL_law_737 : decode cL_law 737 = .ok (.iadd, 1) := by decide +kernel
theorem dL_law_738 : decode cL_law 738 = .ok (.iaload, 1) := by decide +kernel
theorem dL_law_739 : decode cL_law 739 = .ok (.invokevirtual 121, 3) := by decide +kernel
theorem dL_law_742 : decode cL_law 742 = .ok (.lcmp, 1) := by decide +kernel
theorem dL_law_743 : decode cL_law 743 = .ok (.ifCond .eq 175, 3) := by decide +kernel
theorem dL_law_746 : decode cL_law 746 = .ok (.iconst 0, 1) := by decide +kernel
theorem dL_law_747 : decode cL_law 747 = .ok (.ireturn, 1) := by decide +kernel
theorem dL_law_748 : decode cL_law 748 = .ok (.aload_n 1, 1) := by decide +kernel
theorem dL_law_749 : decode cL_law 749 = .ok (.aload_n 0, 1) := by decide +kernel
theorem dL_law_750 : decode cL_law 750 = .ok (.iload_n 3, 1) := by decide +kernel
theorem dL_law_751 : decode cL_law 751 = .ok (.iconst 1, 1) := by decide +kernel
theorem dL_law_752 : decode cL_law 752 = .ok (.iadd, 1) := by decide +kernel
theorem dL_law_753 : decode cL_law 753 = .ok (.iaload, 1) := by decide +kernel
theorem dL_law_754 : decode cL_law 754 = .ok (.invokevirtual 122, 3) := by decide +kernel
theorem dL_law_757 : decode cL_law 757 = .ok (.aload_n 2, 1) := by decide +kernel
theorem dL_law_758 : decode cL_law 758 = .ok (.aload_n 0, 1) := by decide +kernel
theorem dL_law_759 : decode cL_law 759 = .ok (.iload_n 3, 1) := by decide +kernel
theorem dL_law_760 : decode cL_law 760 = .ok (.iconst 1, 1) := by decide +kernel
theorem dL_law_761 : decode cL_law 761 = .ok (.iadd, 1) := by decide +kernel
theorem dL_law_762 : decode cL_law 762 = .ok (.iaload, 1) := by decide +kernel
theorem dL_law_763 : decode cL_law 763 = .ok (.invokevirtual 125, 3) := by decide +kernel
theorem dL_law_766 : decode cL_law 766 = .ok (.lcmp, 1) := by decide +kernel
theorem dL_law_767 : decode cL_law 767 = .ok (.ifCond .eq 151, 3) := by decide +kernel
theorem dL_law_770 : decode cL_law 770 = .ok (.iconst 0, 1) := by decide +kernel
theorem dL_law_771 : decode cL_law 771 = .ok (.ireturn, 1) := by decide +kernel
theorem dL_law_772 : decode cL_law 772 = .ok (.aload_n 1, 1) := by decide +kernel
theorem dL_law_773 : decode cL_law 773 = .ok (.aload_n 0, 1) := by decide +kernel
theorem dL_law_774 : decode cL_law 774 = .ok (.iload_n 3, 1) := by decide +kernel
theorem dL_law_775 : decode cL_law 775 = .ok (.iconst 1, 1) := by decide +kernel
theorem dL_law_776 : decode cL_law 776 = .ok (.iadd, 1) := by decide +kernel
theorem dL_law_777 : decode cL_law 777 = .ok (.iaload, 1) := by decide +kernel
theorem dL_law_778 : decode cL_law 778 = .ok (.invokevirtual 126, 3) := by decide +kernel
theorem dL_law_781 : decode cL_law 781 = .ok (.aload_n 2, 1) := by decide +kernel
theorem dL_law_782 : decode cL_law 782 = .ok (.aload_n 0, 1) := by decide +kernel
theorem dL_law_783 : decode cL_law 783 = .ok (.iload_n 3, 1) := by decide +kernel
theorem dL_law_784 : decode cL_law 784 = .ok (.iconst 1, 1) := by decide +kernel
theorem dL_law_785 : decode cL_law 785 = .ok (.iadd, 1) := by decide +kernel
theorem dL_law_786 : decode cL_law 786 = .ok (.iaload, 1) := by decide +kernel
theorem dL_law_787 : decode cL_law 787 = .ok (.invokevirtual 129, 3) := by decide +kernel
theorem dL_law_790 : decode cL_law 790 = .ok (.lcmp, 1) := by decide +kernel
theorem dL_law_791 : decode cL_law 791 = .ok (.ifCond .eq 127, 3) := by decide +kernel
theorem dL_law_794 : decode cL_law 794 = .ok (.iconst 0, 1) := by decide +kernel
theorem dL_law_795 : decode cL_law 795 = .ok (.ireturn, 1) := by decide +kernel
theorem dL_law_796 : decode cL_law 796 = .ok (.aload_n 1, 1) := by decide +kernel
theorem dL_law_797 : decode cL_law 797 = .ok (.aload_n 0, 1) := by decide +kernel
theorem dL_law_798 : decode cL_law 798 = .ok (.iload_n 3, 1) := by decide +kernel
theorem dL_law_799 : decode cL_law 799 = .ok (.iconst 1, 1) := by decide +kernel
theorem dL_law_800 : decode cL_law 800 = .ok (.iadd, 1) := by decide +kernel
theorem dL_law_801 : decode cL_law 801 = .ok (.iaload, 1) := by decide +kernel
theorem dL_law_802 : decode cL_law 802 = .ok (.invokevirtual 130, 3) := by decide +kernel
theorem dL_law_805 : decode cL_law 805 = .ok (.aload_n 2, 1) := by decide +kernel
theorem dL_law_806 : decode cL_law 806 = .ok (.aload_n 0, 1) := by decide +kernel
theorem dL_law_807 : decode cL_law 807 = .ok (.iload_n 3, 1) := by decide +kernel
theorem dL_law_808 : decode cL_law 808 = .ok (.iconst 1, 1) := by decide +kernel
theorem dL_law_809 : decode cL_law 809 = .ok (.iadd, 1) := by decide +kernel
theorem dL_law_810 : decode cL_law 810 = .ok (.iaload, 1) := by decide +kernel
theorem dL_law_811 : decode cL_law 811 = .ok (.invokevirtual 133, 3) := by decide +kernel
theorem dL_law_814 : decode cL_law 814 = .ok (.lcmp, 1) := by decide +kernel
theorem dL_law_815 : decode cL_law 815 = .ok (.ifCond .eq 103, 3) := by decide +kernel
theorem dL_law_818 : decode cL_law 818 = .ok (.iconst 0, 1) := by decide +kernel
theorem dL_law_819 : decode cL_law 819 = .ok (.ireturn, 1) := by decide +kernel
theorem dL_law_820 : decode cL_law 820 = .ok (.aload_n 1, 1) := by decide +kernel
theorem dL_law_821 : decode cL_law 821 = .ok (.aload_n 0, 1) := by decide +kernel
theorem dL_law_822 : decode cL_law 822 = .ok (.iload_n 3, 1) := by decide +kernel
theorem dL_law_823 : decode cL_law 823 = .ok (.iconst 1, 1) := by decide +kernel
theorem dL_law_824 : decode cL_law 824 = .ok (.iadd, 1) := by decide +kernel
theorem dL_law_825 : decode cL_law 825 = .ok (.iaload, 1) := by decide +kernel
theorem dL_law_826 : decode cL_law 826 = .ok (.invokevirtual 134, 3) := by decide +kernel
theorem dL_law_829 : decode cL_law 829 = .ok (.aload_n 2, 1) := by decide +kernel
theorem dL_law_830 : decode cL_law 830 = .ok (.aload_n 0, 1) := by decide +kernel
theorem dL_law_831 : decode cL_law 831 = .ok (.iload_n 3, 1) := by decide +kernel
theorem dL_law_832 : decode cL_law 832 = .ok (.iconst 1, 1) := by decide +kernel
theorem dL_law_833 : decode cL_law 833 = .ok (.iadd, 1) := by decide +kernel
theorem dL_law_834 : decode cL_law 834 = .ok (.iaload, 1) := by decide +kernel
theorem dL_law_835 : decode cL_law 835 = .ok (.invokevirtual 137, 3) := by decide +kernel
theorem dL_law_838 : decode cL_law 838 = .ok (.lcmp, 1) := by decide +kernel
theorem dL_law_839 : decode cL_law 839 = .ok (.ifCond .eq 79, 3) := by decide +kernel
theorem dL_law_842 : decode cL_law 842 = .ok (.iconst 0, 1) := by decide +kernel
theorem dL_law_843 : decode cL_law 843 = .ok (.ireturn, 1) := by decide +kernel
theorem dL_law_844 : decode cL_law 844 = .ok (.aload_n 1, 1) := by decide +kernel
theorem dL_law_845 : decode cL_law 845 = .ok (.aload_n 0, 1) := by decide +kernel
theorem dL_law_846 : decode cL_law 846 = .ok (.iload_n 3, 1) := by decide +kernel
theorem dL_law_847 : decode cL_law 847 = .ok (.iconst 1, 1) := by decide +kernel
theorem dL_law_848 : decode cL_law 848 = .ok (.iadd, 1) := by decide +kernel
theorem dL_law_849 : decode cL_law 849 = .ok (.iaload, 1) := by decide +kernel
theorem dL_law_850 : decode cL_law 850 = .ok (.invokevirtual 138, 3) := by decide +kernel
theorem dL_law_853 : decode cL_law 853 = .ok (.aload_n 2, 1) := by decide +kernel
theorem dL_law_854 : decode cL_law 854 = .ok (.aload_n 0, 1) := by decide +kernel
theorem dL_law_855 : decode cL_law 855 = .ok (.iload_n 3, 1) := by decide +kernel
theorem dL_law_856 : decode cL_law 856 = .ok (.iconst 1, 1) := by decide +kernel
theorem dL_law_857 : decode cL_law 857 = .ok (.iadd, 1) := by decide +kernel
theorem dL_law_858 : decode cL_law 858 = .ok (.iaload, 1) := by decide +kernel
theorem dL_law_859 : decode cL_law 859 = .ok (.invokevirtual 141, 3) := by decide +kernel
theorem dL_law_862 : decode cL_law 862 = .ok (.lcmp, 1) := by decide +kernel
theorem dL_law_863 : decode cL_law 863 = .ok (.ifCond .eq 55, 3) := by decide +kernel
theorem dL_law_866 : decode cL_law 866 = .ok (.iconst 0, 1) := by decide +kernel
theorem dL_law_867 : decode cL_law 867 = .ok (.ireturn, 1) := by decide +kernel
theorem dL_law_868 : decode cL_law 868 = .ok (.aload_n 1, 1) := by decide +kernel
theorem dL_law_869 : decode cL_law 869 = .ok (.aload_n 0, 1) := by decide +kernel
theorem dL_law_870 : decode cL_law 870 = .ok (.iload_n 3, 1) := by decide +kernel
theorem dL_law_871 : decode cL_law 871 = .ok (.iconst 1, 1) := by decide +kernel
theorem dL_law_872 : decode cL_law 872 = .ok (.iadd, 1) := by decide +kernel
theorem dL_law_873 : decode cL_law 873 = .ok (.iaload, 1) := by decide +kernel
theorem dL_law_874 : decode cL_law 874 = .ok (.invokevirtual 142, 3) := by decide +kernel
theorem dL_law_877 : decode cL_law 877 = .ok (.aload_n 2, 1) := by decide +kernel
theorem dL_law_878 : decode cL_law 878 = .ok (.aload_n 0, 1) := by decide +kernel
theorem dL_law_879 : decode cL_law 879 = .ok (.iload_n 3, 1) := by decide +kernel
theorem dL_law_880 : decode cL_law 880 = .ok (.iconst 1, 1) := by decide +kernel
theorem dL_law_881 : decode cL_law 881 = .ok (.iadd, 1) := by decide +kernel
theorem dL_law_882 : decode cL_law 882 = .ok (.iaload, 1) := by decide +kernel
theorem dL_law_883 : decode cL_law 883 = .ok (.invokevirtual 145, 3) := by decide +kernel
theorem dL_law_886 : decode cL_law 886 = .ok (.lcmp, 1) := by decide +kernel
theorem dL_law_887 : decode cL_law 887 = .ok (.ifCond .eq 31, 3) := by decide +kernel
theorem dL_law_890 : decode cL_law 890 = .ok (.iconst 0, 1) := by decide +kernel
theorem dL_law_891 : decode cL_law 891 = .ok (.ireturn, 1) := by decide +kernel
theorem dL_law_892 : decode cL_law 892 = .ok (.aload_n 1, 1) := by decide +kernel
theorem dL_law_893 : decode cL_law 893 = .ok (.invokevirtual 146, 3) := by decide +kernel
theorem dL_law_896 : decode cL_law 896 = .ok (.aload_n 2, 1) := by decide +kernel
theorem dL_law_897 : decode cL_law 897 = .ok (.invokevirtual 149, 3) := by decide +kernel
theorem dL_law_900 : decode cL_law 900 = .ok (.if_icmp .eq 18, 3) := by decide +kernel
theorem dL_law_903 : decode cL_law 903 = .ok (.iconst 0, 1) := by decide +kernel
theorem dL_law_904 : decode cL_law 904 = .ok (.ireturn, 1) := by decide +kernel
theorem dL_law_905 : decode cL_law 905 = .ok (.aload_n 1, 1) := by decide +kernel
theorem dL_law_906 : decode cL_law 906 = .ok (.invokevirtual 150, 3) := by decide +kernel
theorem dL_law_909 : decode cL_law 909 = .ok (.aload_n 2, 1) := by decide +kernel
theorem dL_law_910 : decode cL_law 910 = .ok (.invokevirtual 153, 3) := by decide +kernel
theorem dL_law_913 : decode cL_law 913 = .ok (.if_icmp .eq 5, 3) := by decide +kernel
theorem dL_law_916 : decode cL_law 916 = .ok (.iconst 0, 1) := by decide +kernel
theorem dL_law_917 : decode cL_law 917 = .ok (.ireturn, 1) := by decide +kernel
theorem dL_law_918 : decode cL_law 918 = .ok (.iinc 3 4, 3) := by decide +kernel
theorem dL_law_921 : decode cL_law 921 = .ok (.goto (-903), 3) := by decide +kernel
theorem dL_law_924 : decode cL_law 924 = .ok (.iconst 1, 1) := by decide +kernel
theorem dL_law_925 : decode cL_law 925 = .ok (.ireturn, 1) := by decide +kernel
end
section
theorem dX0_init_0 : decode cX0_init 0 = .ok (.aload_n 0, 1) := by decide +kernel
theorem dX0_init_1 : decode cX0_init 1 = .ok (.invokespecial 3, 3) := by decide +kernel
theorem dX0_init_4 : decode cX0_init 4 = .ok (.aload_n 0, 1) := by decide +kernel
theorem dX0_init_5 : decode cX0_init 5 = .ok (.bipush 19, 2) := by decide +kernel
theorem dX0_init_7 : decode cX0_init 7 = .ok (.newarray .long, 2) := by decide +kernel
theorem dX0_init_9 : decode cX0_init 9 = .ok (.putfield 9, 3) := by decide +kernel
theorem dX0_init_12 : decode cX0_init 12 = .ok (.aload_n 0, 1) := by decide +kernel
theorem dX0_init_13 : decode cX0_init 13 = .ok (.bipush 19, 2) := by decide +kernel
theorem dX0_init_15 : decode cX0_init 15 = .ok (.newarray .long, 2) := by decide +kernel
theorem dX0_init_17 : decode cX0_init 17 = .ok (.putfield 15, 3) := by decide +kernel
theorem dX0_init_20 : decode cX0_init 20 = .ok (.return_, 1) := by decide +kernel
theorem dX0_makeFrom_0 : decode cX0_makeFrom 0 = .ok (.aload_n 0, 1) := by decide +kernel
theorem dX0_makeFrom_1 : decode cX0_makeFrom 1 = .ok (.getfield 9, 3) := by decide +kernel
theorem dX0_makeFrom_4 : decode cX0_makeFrom 4 = .ok (.iconst 0, 1) := by decide +kernel
theorem dX0_makeFrom_5 : decode cX0_makeFrom 5 = .ok (.lconst 1, 1) := by decide +kernel
theorem dX0_makeFrom_6 : decode cX0_makeFrom 6 = .ok (.lastore, 1) := by decide +kernel
theorem dX0_makeFrom_7 : decode cX0_makeFrom 7 = .ok (.iconst 1, 1) := by decide +kernel
theorem dX0_makeFrom_8 : decode cX0_makeFrom 8 = .ok (.istore_n 2, 1) := by decide +kernel
theorem dX0_makeFrom_9 : decode cX0_makeFrom 9 = .ok (.iload_n 2, 1) := by decide +kernel
theorem dX0_makeFrom_10 : decode cX0_makeFrom 10 = .ok (.bipush 18, 2) := by decide +kernel
theorem dX0_makeFrom_12 : decode cX0_makeFrom 12 = .ok (.if_icmp .gt 54, 3) := by decide +kernel
theorem dX0_makeFrom_15 : decode cX0_makeFrom 15 = .ok (.lconst 0, 1) := by decide +kernel
theorem dX0_makeFrom_16 : decode cX0_makeFrom 16 = .ok (.lstore_n 3, 1) := by decide +kernel
theorem dX0_makeFrom_17 : decode cX0_makeFrom 17 = .ok (.iconst 1, 1) := by decide +kernel
theorem dX0_makeFrom_18 : decode cX0_makeFrom 18 = .ok (.istore 5, 2) := by decide +kernel
theorem dX0_makeFrom_20 : decode cX0_makeFrom 20 = .ok (.iload 5, 2) := by decide +kernel
theorem dX0_makeFrom_22 : decode cX0_makeFrom 22 = .ok (.iload_n 2, 1) := by decide +kernel
theorem dX0_makeFrom_23 : decode cX0_makeFrom 23 = .ok (.if_icmp .gt 26, 3) := by decide +kernel
theorem dX0_makeFrom_26 : decode cX0_makeFrom 26 = .ok (.lload_n 3, 1) := by decide +kernel
theorem dX0_makeFrom_27 : decode cX0_makeFrom 27 = .ok (.aload_n 1, 1) := by decide +kernel
theorem dX0_makeFrom_28 : decode cX0_makeFrom 28 = .ok (.iload 5, 2) := by decide +kernel
theorem dX0_makeFrom_30 : decode cX0_makeFrom 30 = .ok (.laload, 1) := by decide +kernel
theorem dX0_makeFrom_31 : decode cX0_makeFrom 31 = .ok (.aload_n 0, 1) := by decide +kernel
theorem dX0_makeFrom_32 : decode cX0_makeFrom 32 = .ok (.getfield 9, 3) := by decide +kernel
theorem dX0_makeFrom_35 : decode cX0_makeFrom 35 = .ok (.iload_n 2, 1) := by decide +kernel
theorem dX0_makeFrom_36 : decode cX0_makeFrom 36 = .ok (.iload 5, 2) := by decide +kernel
theorem dX0_makeFrom_38 : decode cX0_makeFrom 38 = .ok (.isub, 1) := by decide +kernel
theorem dX0_makeFrom_39 : decode cX0_makeFrom 39 = .ok (.laload, 1) := by decide +kernel
theorem dX0_makeFrom_40 : decode cX0_makeFrom 40 = .ok (.lmul, 1) := by decide +kernel
theorem dX0_makeFrom_41 : decode cX0_makeFrom 41 = .ok (.ladd, 1) := by decide +kernel
theorem dX0_makeFrom_42 : decode cX0_makeFrom 42 = .ok (.lstore_n 3, 1) := by decide +kernel
theorem dX0_makeFrom_43 : decode cX0_makeFrom 43 = .ok (.iinc 5 1, 3) := by decide +kernel
theorem dX0_makeFrom_46 : decode cX0_makeFrom 46 = .ok (.goto (-26), 3) := by decide +kernel
theorem dX0_makeFrom_49 : decode cX0_makeFrom 49 = .ok (.aload_n 0, 1) := by decide +kernel
theorem dX0_makeFrom_50 : decode cX0_makeFrom 50 = .ok (.getfield 9, 3) := by decide +kernel
theorem dX0_makeFrom_53 : decode cX0_makeFrom 53 = .ok (.iload_n 2, 1) := by decide +kernel
theorem dX0_makeFrom_54 : decode cX0_makeFrom 54 = .ok (.lload_n 3, 1) := by decide +kernel
theorem dX0_makeFrom_55 : decode cX0_makeFrom 55 = .ok (.lneg, 1) := by decide +kernel
theorem dX0_makeFrom_56 : decode cX0_makeFrom 56 = .ok (.iload_n 2, 1) := by decide +kernel
theorem dX0_makeFrom_57 : decode cX0_makeFrom 57 = .ok (.i2l, 1) := by decide +kernel
theorem dX0_makeFrom_58 : decode cX0_makeFrom 58 = .ok (.ldiv, 1) := by decide +kernel
theorem dX0_makeFrom_59 : decode cX0_makeFrom 59 = .ok (.lastore, 1) := by decide +kernel
theorem dX0_makeFrom_60 : decode cX0_makeFrom 60 = .ok (.iinc 2 1, 3) := by decide +kernel
theorem dX0_makeFrom_63 : decode cX0_makeFrom 63 = .ok (.goto (-54), 3) := by decide +kernel
theorem dX0_makeFrom_66 : decode cX0_makeFrom 66 = .ok (.return_, 1) := by decide +kernel
theorem dX0_inverseCoefficient_0 : decode cX0_inverseCoefficient 0 = .ok (.aload_n 0, 1) := by decide +kernel
theorem dX0_inverseCoefficient_1 : decode cX0_inverseCoefficient 1 = .ok (.getfield 15, 3) := by decide +kernel
theorem dX0_inverseCoefficient_4 : decode cX0_inverseCoefficient 4 = .ok (.iconst 0, 1) := by decide +kernel
theorem dX0_inverseCoefficient_5 : decode cX0_inverseCoefficient 5 = .ok (.lconst 1, 1) := by decide +kernel
theorem dX0_inverseCoefficient_6 : decode cX0_inverseCoefficient 6 = .ok (.lastore, 1) := by decide +kernel
theorem dX0_inverseCoefficient_7 : decode cX0_inverseCoefficient 7 = .ok (.iconst 1, 1) := by decide +kernel
theorem dX0_inverseCoefficient_8 : decode cX0_inverseCoefficient 8 = .ok (.istore_n 2, 1) := by decide +kernel
theorem dX0_inverseCoefficient_9 : decode cX0_inverseCoefficient 9 = .ok (.iload_n 2, 1) := by decide +kernel
theorem dX0_inverseCoefficient_10 : decode cX0_inverseCoefficient 10 = .ok (.iload_n 1, 1) := by decide +kernel
theorem dX0_inverseCoefficient_11 : decode cX0_inverseCoefficient 11 = .ok (.if_icmp .gt 54, 3) := by decide +kernel
theorem dX0_inverseCoefficient_14 : decode cX0_inverseCoefficient 14 = .ok (.lconst 0, 1) := by decide +kernel
theorem dX0_inverseCoefficient_15 : decode cX0_inverseCoefficient 15 = .ok (.lstore_n 3, 1) := by decide +kernel
theorem dX0_inverseCoefficient_16 : decode cX0_inverseCoefficient 16 = .ok (.iconst 1, 1) := by decide +kernel
theorem dX0_inverseCoefficient_17 : decode cX0_inverseCoefficient 17 = .ok (.istore 5, 2) := by decide +kernel
theorem dX0_inverseCoefficient_19 : decode cX0_inverseCoefficient 19 = .ok (.iload 5, 2) := by decide +kernel
theorem dX0_inverseCoefficient_21 : decode cX0_inverseCoefficient 21 = .ok (.iload_n 2, 1) := by decide +kernel
theorem dX0_inverseCoefficient_22 : decode cX0_inverseCoefficient 22 = .ok (.if_icmp .gt 29, 3) := by decide +kernel
theorem dX0_inverseCoefficient_25 : decode cX0_inverseCoefficient 25 = .ok (.lload_n 3, 1) := by decide +kernel
theorem dX0_inverseCoefficient_26 : decode cX0_inverseCoefficient 26 = .ok (.aload_n 0, 1) := by decide +kernel
theorem dX0_inverseCoefficient_27 : decode cX0_inverseCoefficient 27 = .ok (.getfield 9, 3) := by decide +kernel
theorem dX0_inverseCoefficient_30 : decode cX0_inverseCoefficient 30 = .ok (.iload 5, 2) := by decide +kernel
theorem dX0_inverseCoefficient_32 : decode cX0_inverseCoefficient 32 = .ok (.laload, 1) := by decide +kernel
theorem dX0_inverseCoefficient_33 : decode cX0_inverseCoefficient 33 = .ok (.aload_n 0, 1) := by decide +kernel
theorem dX0_inverseCoefficient_34 : decode cX0_inverseCoefficient 34 = .ok (.getfield 15, 3) := by decide +kernel
theorem dX0_inverseCoefficient_37 : decode cX0_inverseCoefficient 37 = .ok (.iload_n 2, 1) := by decide +kernel
theorem dX0_inverseCoefficient_38 : decode cX0_inverseCoefficient 38 = .ok (.iload 5, 2) := by decide +kernel
theorem dX0_inverseCoefficient_40 : decode cX0_inverseCoefficient 40 = .ok (.isub, 1) := by decide +kernel
theorem dX0_inverseCoefficient_41 : decode cX0_inverseCoefficient 41 = .ok (.laload, 1) := by decide +kernel
theorem dX0_inverseCoefficient_42 : decode cX0_inverseCoefficient 42 = .ok (.lmul, 1) := by decide +kernel
theorem dX0_inverseCoefficient_43 : decode cX0_inverseCoefficient 43 = .ok (.ladd, 1) := by decide +kernel
theorem dX0_inverseCoefficient_44 : decode cX0_inverseCoefficient 44 = .ok (.lstore_n 3, 1) := by decide +kernel
theorem dX0_inverseCoefficient_45 : decode cX0_inverseCoefficient 45 = .ok (.iinc 5 1, 3) := by decide +kernel
theorem dX0_inverseCoefficient_48 : decode cX0_inverseCoefficient 48 = .ok (.goto (-29), 3) := by decide +kernel
theorem dX0_inverseCoefficient_51 : decode cX0_inverseCoefficient 51 = .ok (.aload_n 0, 1) := by decide +kernel
theorem dX0_inverseCoefficient_52 : decode cX0_inverseCoefficient 52 = .ok (.getfield 15, 3) := by decide +kernel
theorem dX0_inverseCoefficient_55 : decode cX0_inverseCoefficient 55 = .ok (.iload_n 2, 1) := by decide +kernel
theorem dX0_inverseCoefficient_56 : decode cX0_inverseCoefficient 56 = .ok (.lload_n 3, 1) := by decide +kernel
theorem dX0_inverseCoefficient_57 : decode cX0_inverseCoefficient 57 = .ok (.lneg, 1) := by decide +kernel
theorem dX0_inverseCoefficient_58 : decode cX0_inverseCoefficient 58 = .ok (.lastore, 1) := by decide +kernel
theorem dX0_inverseCoefficient_59 : decode cX0_inverseCoefficient 59 = .ok (.iinc 2 1, 3) := by decide +kernel
theorem dX0_inverseCoefficient_62 : decode cX0_inverseCoefficient 62 = .ok (.goto (-53), 3) := by decide +kernel
theorem dX0_inverseCoefficient_65 : decode cX0_inverseCoefficient 65 = .ok (.aload_n 0, 1) := by decide +kernel
theorem dX0_inverseCoefficient_66 : decode cX0_inverseCoefficient 66 = .ok (.getfield 15, 3) := by decide +kernel
theorem dX0_inverseCoefficient_69 : decode cX0_inverseCoefficient 69 = .ok (.iload_n 1, 1) := by decide +kernel
theorem dX0_inverseCoefficient_70 : decode cX0_inverseCoefficient 70 = .ok (.laload, 1) := by decide +kernel
theorem dX0_inverseCoefficient_71 : decode cX0_inverseCoefficient 71 = .ok (.lreturn, 1) := by decide +kernel
theorem dX0_valueAt_0 : decode cX0_valueAt 0 = .ok (.lconst 0, 1) := by decide +kernel
theorem dX0_valueAt_1 : decode cX0_valueAt 1 = .ok (.lstore_n 3, 1) := by decide +kernel
theorem dX0_valueAt_2 : decode cX0_valueAt 2 = .ok (.bipush 18, 2) := by decide +kernel
theorem dX0_valueAt_4 : decode cX0_valueAt 4 = .ok (.istore 5, 2) := by decide +kernel
theorem dX0_valueAt_6 : decode cX0_valueAt 6 = .ok (.iload 5, 2) := by decide +kernel
theorem dX0_valueAt_8 : decode cX0_valueAt 8 = .ok (.ifCond .lt 21, 3) := by decide +kernel
theorem dX0_valueAt_11 : decode cX0_valueAt 11 = .ok (.lload_n 3, 1) := by decide +kernel
theorem dX0_valueAt_12 : decode cX0_valueAt 12 = .ok (.lload_n 1, 1) := by decide +kernel
theorem dX0_valueAt_13 : decode cX0_valueAt 13 = .ok (.lmul, 1) := by decide +kernel
theorem dX0_valueAt_14 : decode cX0_valueAt 14 = .ok (.aload_n 0, 1) := by decide +kernel
theorem dX0_valueAt_15 : decode cX0_valueAt 15 = .ok (.getfield 9, 3) := by decide +kernel
theorem dX0_valueAt_18 : decode cX0_valueAt 18 = .ok (.iload 5, 2) := by decide +kernel
theorem dX0_valueAt_20 : decode cX0_valueAt 20 = .ok (.laload, 1) := by decide +kernel
theorem dX0_valueAt_21 : decode cX0_valueAt 21 = .ok (.ladd, 1) := by decide +kernel
theorem dX0_valueAt_22 : decode cX0_valueAt 22 = .ok (.lstore_n 3, 1) := by decide +kernel
theorem dX0_valueAt_23 : decode cX0_valueAt 23 = .ok (.iinc 5 (-1), 3) := by decide +kernel
theorem dX0_valueAt_26 : decode cX0_valueAt 26 = .ok (.goto (-20), 3) := by decide +kernel
theorem dX0_valueAt_29 : decode cX0_valueAt 29 = .ok (.lload_n 3, 1) := by decide +kernel
theorem dX0_valueAt_30 : decode cX0_valueAt 30 = .ok (.lreturn, 1) := by decide +kernel
theorem dX0_coefficientAroundOne_0 : decode cX0_coefficientAroundOne 0 = .ok (.aload_n 0, 1) := by decide +kernel
theorem dX0_coefficientAroundOne_1 : decode cX0_coefficientAroundOne 1 = .ok (.getfield 9, 3) := by decide +kernel
theorem dX0_coefficientAroundOne_4 : decode cX0_coefficientAroundOne 4 = .ok (.iconst 0, 1) := by decide +kernel
theorem dX0_coefficientAroundOne_5 : decode cX0_coefficientAroundOne 5 = .ok (.aload_n 0, 1) := by decide +kernel
theorem dX0_coefficientAroundOne_6 : decode cX0_coefficientAroundOne 6 = .ok (.getfield 15, 3) := by decide +kernel
theorem dX0_coefficientAroundOne_9 : decode cX0_coefficientAroundOne 9 = .ok (.iconst 0, 1) := by decide +kernel
theorem dX0_coefficientAroundOne_10 : decode cX0_coefficientAroundOne 10 = .ok (.bipush 19, 2) := by decide +kernel
theorem dX0_coefficientAroundOne_12 : decode cX0_coefficientAroundOne 12 = .ok (.invokestatic 18, 3) := by decide +kernel
theorem dX0_coefficientAroundOne_15 : decode cX0_coefficientAroundOne 15 = .ok (.iconst 0, 1) := by decide +kernel
theorem dX0_coefficientAroundOne_16 : decode cX0_coefficientAroundOne 16 = .ok (.istore_n 2, 1) := by decide +kernel
theorem dX0_coefficientAroundOne_17 : decode cX0_coefficientAroundOne 17 = .ok (.iload_n 2, 1) := by decide +kernel
theorem dX0_coefficientAroundOne_18 : decode cX0_coefficientAroundOne 18 = .ok (.iload_n 1, 1) := by decide +kernel
theorem dX0_coefficientAroundOne_19 : decode cX0_coefficientAroundOne 19 = .ok (.if_icmp .gt 40, 3) := by decide +kernel
theorem dX0_coefficientAroundOne_22 : decode cX0_coefficientAroundOne 22 = .ok (.bipush 17, 2) := by decide +kernel
theorem dX0_coefficientAroundOne_24 : decode cX0_coefficientAroundOne 24 = .ok (.istore_n 3, 1) := by decide +kernel
theorem dX0_coefficientAroundOne_25 : decode cX0_coefficientAroundOne 25 = .ok (.iload_n 3, 1) := by decide +kernel
theorem dX0_coefficientAroundOne_26 : decode cX0_coefficientAroundOne 26 = .ok (.iload_n 2, 1) := by decide +kernel
theorem dX0_coefficientAroundOne_27 : decode cX0_coefficientAroundOne 27 = .ok (.if_icmp .lt 26, 3) := by decide +kernel
theorem dX0_coefficientAroundOne_30 : decode cX0_coefficientAroundOne 30 = .ok (.aload_n 0, 1) := by decide +kernel
theorem dX0_coefficientAroundOne_31 : decode cX0_coefficientAroundOne 31 = .ok (.getfield 15, 3) := by decide +kernel
theorem dX0_coefficientAroundOne_34 : decode cX0_coefficientAroundOne 34 = .ok (.iload_n 3, 1) := by decide +kernel
theorem dX0_coefficientAroundOne_35 : decode cX0_coefficientAroundOne 35 = .ok (.dup2, 1) := by decide +kernel
theorem dX0_coefficientAroundOne_36 : decode cX0_coefficientAroundOne 36 = .ok (.laload, 1) := by decide +kernel
theorem dX0_coefficientAroundOne_37 : decode cX0_coefficientAroundOne 37 = .ok (.aload_n 0, 1) := by decide +kernel
theorem dX0_coefficientAroundOne_38 : decode cX0_coefficientAroundOne 38 = .ok (.getfield 15, 3) := by decide +kernel
theorem dX0_coefficientAroundOne_41 : decode cX0_coefficientAroundOne 41 = .ok (.iload_n 3, 1) := by decide +kernel
theorem dX0_coefficientAroundOne_42 : decode cX0_coefficientAroundOne 42 = .ok (.iconst 1, 1) := by decide +kernel
theorem dX0_coefficientAroundOne_43 : decode cX0_coefficientAroundOne 43 = .ok (.iadd, 1) := by decide +kernel
theorem dX0_coefficientAroundOne_44 : decode cX0_coefficientAroundOne 44 = .ok (.laload, 1) := by decide +kernel
theorem dX0_coefficientAroundOne_45 : decode cX0_coefficientAroundOne 45 = .ok (.ladd, 1) := by decide +kernel
theorem dX0_coefficientAroundOne_46 : decode cX0_coefficientAroundOne 46 = .ok (.lastore, 1) := by decide +kernel
theorem dX0_coefficientAroundOne_47 : decode cX0_coefficientAroundOne 47 = .ok (.iinc 3 (-1), 3) := by decide +kernel
theorem dX0_coefficientAroundOne_50 : decode cX0_coefficientAroundOne 50 = .ok (.goto (-25), 3) := by decide +kernel
theorem dX0_coefficientAroundOne_53 : decode cX0_coefficientAroundOne 53 = .ok (.iinc 2 1, 3) := by decide +kernel
theorem dX0_coefficientAroundOne_56 : decode cX0_coefficientAroundOne 56 = .ok (.goto (-39), 3) := by decide +kernel
theorem dX0_coefficientAroundOne_59 : decode cX0_coefficientAroundOne 59 = .ok (.aload_n 0, 1) := by decide +kernel
theorem dX0_coefficientAroundOne_60 : decode cX0_coefficientAroundOne 60 = .ok (.getfield 15, 3) := by decide +kernel
theorem dX0_coefficientAroundOne_63 : decode cX0_coefficientAroundOne 63 = .ok (.iload_n 1, 1) := by decide +kernel
theorem dX0_coefficientAroundOne_64 : decode cX0_coefficientAroundOne 64 = .ok (.laload, 1) := by decide +kernel
theorem dX0_coefficientAroundOne_65 : decode cX0_coefficientAroundOne 65 = .ok (.lreturn, 1) := by decide +kernel
theorem dX0_highestPower_0 : decode cX0_highestPower 0 = .ok (.bipush 18, 2) := by decide +kernel
theorem dX0_highestPower_2 : decode cX0_highestPower 2 = .ok (.istore_n 1, 1) := by decide +kernel
theorem dX0_highestPower_3 : decode cX0_highestPower 3 = .ok (.iload_n 1, 1) := by decide +kernel
theorem dX0_highestPower_4 : decode cX0_highestPower 4 = .ok (.ifCond .le 22, 3) := by decide +kernel
theorem dX0_highestPower_7 : decode cX0_highestPower 7 = .ok (.aload_n 0, 1) := by decide +kernel
theorem dX0_highestPower_8 : decode cX0_highestPower 8 = .ok (.getfield 9, 3) := by decide +kernel
theorem dX0_highestPower_11 : decode cX0_highestPower 11 = .ok (.iload_n 1, 1) := by decide +kernel
theorem dX0_highestPower_12 : decode cX0_highestPower 12 = .ok (.laload, 1) := by decide +kernel
theorem dX0_highestPower_13 : decode cX0_highestPower 13 = .ok (.lconst 0, 1) := by decide +kernel
theorem dX0_highestPower_14 : decode cX0_highestPower 14 = .ok (.lcmp, 1) := by decide +kernel
theorem dX0_highestPower_15 : decode cX0_highestPower 15 = .ok (.ifCond .eq 5, 3) := by decide +kernel
theorem dX0_highestPower_18 : decode cX0_highestPower 18 = .ok (.iload_n 1, 1) := by decide +kernel
theorem dX0_highestPower_19 : decode cX0_highestPower 19 = .ok (.ireturn, 1) := by decide +kernel
theorem dX0_highestPower_20 : decode cX0_highestPower 20 = .ok (.iinc 1 (-1), 3) := by decide +kernel
theorem dX0_highestPower_23 : decode cX0_highestPower 23 = .ok (.goto (-20), 3) := by decide +kernel
theorem dX0_highestPower_26 : decode cX0_highestPower 26 = .ok (.iconst 0, 1) := by decide +kernel
theorem dX0_highestPower_27 : decode cX0_highestPower 27 = .ok (.ireturn, 1) := by decide +kernel
end
section
theorem dX1_init_0 : decode cX1_init 0 = .ok (.aload_n 0, 1) := by decide +kernel
theorem dX1_init_1 : decode cX1_init 1 = .ok (.invokespecial 3, 3) := by decide +kernel
theorem dX1_init_4 : decode cX1_init 4 = .ok (.aload_n 0, 1) := by decide +kernel
theorem dX1_init_5 : decode cX1_init 5 = .ok (.iconst 0, 1) := by decide +kernel
theorem dX1_init_6 : decode cX1_init 6 = .ok (.putfield 9, 3) := by decide +kernel
theorem dX1_init_9 : decode cX1_init 9 = .ok (.aload_n 0, 1) := by decide +kernel
theorem dX1_init_10 : decode cX1_init 10 = .ok (.bipush 60, 2) := by decide +kernel
theorem dX1_init_12 : decode cX1_init 12 = .ok (.newarray .int, 2) := by decide +kernel
theorem dX1_init_14 : decode cX1_init 14 = .ok (.putfield 15, 3) := by decide +kernel
theorem dX1_init_17 : decode cX1_init 17 = .ok (.return_, 1) := by decide +kernel
theorem dX1_append_0 : decode cX1_append 0 = .ok (.aload_n 0, 1) := by decide +kernel
theorem dX1_append_1 : decode cX1_append 1 = .ok (.getfield 9, 3) := by decide +kernel
theorem dX1_append_4 : decode cX1_append 4 = .ok (.bipush 60, 2) := by decide +kernel
theorem dX1_append_6 : decode cX1_append 6 = .ok (.if_icmp .ge 23, 3) := by decide +kernel
theorem dX1_append_9 : decode cX1_append 9 = .ok (.aload_n 0, 1) := by decide +kernel
theorem dX1_append_10 : decode cX1_append 10 = .ok (.getfield 15, 3) := by decide +kernel
theorem dX1_append_13 : decode cX1_append 13 = .ok (.aload_n 0, 1) := by decide +kernel
theorem dX1_append_14 : decode cX1_append 14 = .ok (.getfield 9, 3) := by decide +kernel
theorem dX1_append_17 : decode cX1_append 17 = .ok (.iload_n 1, 1) := by decide +kernel
theorem dX1_append_18 : decode cX1_append 18 = .ok (.iastore, 1) := by decide +kernel
theorem dX1_append_19 : decode cX1_append 19 = .ok (.aload_n 0, 1) := by decide +kernel
theorem dX1_append_20 : decode cX1_append 20 = .ok (.dup, 1) := by decide +kernel
theorem dX1_append_21 : decode cX1_append 21 = .ok (.getfield 9, 3) := by decide +kernel
theorem dX1_append_24 : decode cX1_append 24 = .ok (.iconst 1, 1) := by decide +kernel
theorem dX1_append_25 : decode cX1_append 25 = .ok (.iadd, 1) := by decide +kernel
theorem dX1_append_26 : decode cX1_append 26 = .ok (.putfield 9, 3) := by decide +kernel
theorem dX1_append_29 : decode cX1_append 29 = .ok (.return_, 1) := by decide +kernel
theorem dX1_readInto_0 : decode cX1_readInto 0 = .ok (.aload_n 0, 1) := by decide +kernel
theorem dX1_readInto_1 : decode cX1_readInto 1 = .ok (.iconst 0, 1) := by decide +kernel
theorem dX1_readInto_2 : decode cX1_readInto 2 = .ok (.putfield 19, 3) := by decide +kernel
theorem dX1_readInto_5 : decode cX1_readInto 5 = .ok (.iconst 0, 1) := by decide +kernel
theorem dX1_readInto_6 : decode cX1_readInto 6 = .ok (.istore_n 2, 1) := by decide +kernel
theorem dX1_readInto_7 : decode cX1_readInto 7 = .ok (.iload_n 2, 1) := by decide +kernel
theorem dX1_readInto_8 : decode cX1_readInto 8 = .ok (.aload_n 0, 1) := by decide +kernel
theorem dX1_readInto_9 : decode cX1_readInto 9 = .ok (.getfield 9, 3) := by decide +kernel
theorem dX1_readInto_12 : decode cX1_readInto 12 = .ok (.if_icmp .ge 33, 3) := by decide +kernel
theorem dX1_readInto_15 : decode cX1_readInto 15 = .ok (.aload_n 0, 1) := by decide +kernel
theorem dX1_readInto_16 : decode cX1_readInto 16 = .ok (.getfield 15, 3) := by decide +kernel
theorem dX1_readInto_19 : decode cX1_readInto 19 = .ok (.iload_n 2, 1) := by decide +kernel
theorem dX1_readInto_20 : decode cX1_readInto 20 = .ok (.iaload, 1) := by decide +kernel
theorem dX1_readInto_21 : decode cX1_readInto 21 = .ok (.istore_n 3, 1) := by decide +kernel
theorem dX1_readInto_22 : decode cX1_readInto 22 = .ok (.iload_n 3, 1) := by decide +kernel
theorem dX1_readInto_23 : decode cX1_readInto 23 = .ok (.bipush 32, 2) := by decide +kernel
theorem dX1_readInto_25 : decode cX1_readInto 25 = .ok (.if_icmp .eq 14, 3) := by decide +kernel
theorem dX1_readInto_28 : decode cX1_readInto 28 = .ok (.aload_n 0, 1) := by decide +kernel
theorem dX1_readInto_29 : decode cX1_readInto 29 = .ok (.iload_n 3, 1) := by decide +kernel
theorem dX1_readInto_30 : decode cX1_readInto 30 = .ok (.aload_n 1, 1) := by decide +kernel
theorem dX1_readInto_31 : decode cX1_readInto 31 = .ok (.invokevirtual 22, 3) := by decide +kernel
theorem dX1_readInto_34 : decode cX1_readInto 34 = .ok (.ifCond .ne 5, 3) := by decide +kernel
theorem dX1_readInto_37 : decode cX1_readInto 37 = .ok (.iload_n 2, 1) := by decide +kernel
theorem dX1_readInto_38 : decode cX1_readInto 38 = .ok (.ireturn, 1) := by decide +kernel
theorem dX1_readInto_39 : decode cX1_readInto 39 = .ok (.iinc 2 1, 3) := by decide +kernel
theorem dX1_readInto_42 : decode cX1_readInto 42 = .ok (.goto (-35), 3) := by decide +kernel
theorem dX1_readInto_45 : decode cX1_readInto 45 = .ok (.aload_n 0, 1) := by decide +kernel
theorem dX1_readInto_46 : decode cX1_readInto 46 = .ok (.getfield 19, 3) := by decide +kernel
theorem dX1_readInto_49 : decode cX1_readInto 49 = .ok (.ifCond .ne 7, 3) := by decide +kernel
theorem dX1_readInto_52 : decode cX1_readInto 52 = .ok (.iconst (-1), 1) := by decide +kernel
theorem dX1_readInto_53 : decode cX1_readInto 53 = .ok (.goto 7, 3) := by decide +kernel
theorem dX1_readInto_56 : decode cX1_readInto 56 = .ok (.aload_n 0, 1) := by decide +kernel
theorem dX1_readInto_57 : decode cX1_readInto 57 = .ok (.getfield 9, 3) := by decide +kernel
theorem dX1_readInto_60 : decode cX1_readInto 60 = .ok (.ireturn, 1) := by decide +kernel
theorem dX1_accept_0 : decode cX1_accept 0 = .ok (.aload_n 0, 1) := by decide +kernel
theorem dX1_accept_1 : decode cX1_accept 1 = .ok (.getfield 19, 3) := by decide +kernel
theorem dX1_accept_4 : decode cX1_accept 4 = .ok (.tableswitch 54 0 2 #[28, 38, 44], 28) := by decide +kernel
theorem dX1_accept_32 : decode cX1_accept 32 = .ok (.aload_n 0, 1) := by decide +kernel
theorem dX1_accept_33 : decode cX1_accept 33 = .ok (.iload_n 1, 1) := by decide +kernel
theorem dX1_accept_34 : decode cX1_accept 34 = .ok (.bipush 48, 2) := by decide +kernel
theorem dX1_accept_36 : decode cX1_accept 36 = .ok (.isub, 1) := by decide +kernel
theorem dX1_accept_37 : decode cX1_accept 37 = .ok (.aload_n 2, 1) := by decide +kernel
theorem dX1_accept_38 : decode cX1_accept 38 = .ok (.invokevirtual 26, 3) := by decide +kernel
theorem dX1_accept_41 : decode cX1_accept 41 = .ok (.ireturn, 1) := by decide +kernel
theorem dX1_accept_42 : decode cX1_accept 42 = .ok (.aload_n 0, 1) := by decide +kernel
theorem dX1_accept_43 : decode cX1_accept 43 = .ok (.iload_n 1, 1) := by decide +kernel
theorem dX1_accept_44 : decode cX1_accept 44 = .ok (.invokevirtual 29, 3) := by decide +kernel
theorem dX1_accept_47 : decode cX1_accept 47 = .ok (.ireturn, 1) := by decide +kernel
theorem dX1_accept_48 : decode cX1_accept 48 = .ok (.aload_n 0, 1) := by decide +kernel
theorem dX1_accept_49 : decode cX1_accept 49 = .ok (.iload_n 1, 1) := by decide +kernel
theorem dX1_accept_50 : decode cX1_accept 50 = .ok (.bipush 48, 2) := by decide +kernel
theorem dX1_accept_52 : decode cX1_accept 52 = .ok (.isub, 1) := by decide +kernel
theorem dX1_accept_53 : decode cX1_accept 53 = .ok (.aload_n 2, 1) := by decide +kernel
theorem dX1_accept_54 : decode cX1_accept 54 = .ok (.invokevirtual 33, 3) := by decide +kernel
theorem dX1_accept_57 : decode cX1_accept 57 = .ok (.ireturn, 1) := by decide +kernel
theorem dX1_accept_58 : decode cX1_accept 58 = .ok (.aload_n 0, 1) := by decide +kernel
theorem dX1_accept_59 : decode cX1_accept 59 = .ok (.iload_n 1, 1) := by decide +kernel
theorem dX1_accept_60 : decode cX1_accept 60 = .ok (.aload_n 2, 1) := by decide +kernel
theorem dX1_accept_61 : decode cX1_accept 61 = .ok (.invokevirtual 36, 3) := by decide +kernel
theorem dX1_accept_64 : decode cX1_accept 64 = .ok (.ireturn, 1) := by decide +kernel
theorem dX1_acceptFirst_0 : decode cX1_acceptFirst 0 = .ok (.aload_n 2, 1) := by decide +kernel
theorem dX1_acceptFirst_1 : decode cX1_acceptFirst 1 = .ok (.invokevirtual 39, 3) := by decide +kernel
theorem dX1_acceptFirst_4 : decode cX1_acceptFirst 4 = .ok (.ifCond .ne 11, 3) := by decide +kernel
theorem dX1_acceptFirst_7 : decode cX1_acceptFirst 7 = .ok (.aload_n 2, 1) := by decide +kernel
theorem dX1_acceptFirst_8 : decode cX1_acceptFirst 8 = .ok (.iload_n 1, 1) := by decide +kernel
theorem dX1_acceptFirst_9 : decode cX1_acceptFirst 9 = .ok (.invokevirtual 45, 3) := by decide +kernel
theorem dX1_acceptFirst_12 : decode cX1_acceptFirst 12 = .ok (.ifCond .ne 5, 3) := by decide +kernel
theorem dX1_acceptFirst_15 : decode cX1_acceptFirst 15 = .ok (.iconst 0, 1) := by decide +kernel
theorem dX1_acceptFirst_16 : decode cX1_acceptFirst 16 = .ok (.ireturn, 1) := by decide +kernel
theorem dX1_acceptFirst_17 : decode cX1_acceptFirst 17 = .ok (.aload_n 0, 1) := by decide +kernel
theorem dX1_acceptFirst_18 : decode cX1_acceptFirst 18 = .ok (.iload_n 1, 1) := by decide +kernel
theorem dX1_acceptFirst_19 : decode cX1_acceptFirst 19 = .ok (.putfield 48, 3) := by decide +kernel
theorem dX1_acceptFirst_22 : decode cX1_acceptFirst 22 = .ok (.aload_n 0, 1) := by decide +kernel
theorem dX1_acceptFirst_23 : decode cX1_acceptFirst 23 = .ok (.iconst 1, 1) := by decide +kernel
theorem dX1_acceptFirst_24 : decode cX1_acceptFirst 24 = .ok (.putfield 19, 3) := by decide +kernel
theorem dX1_acceptFirst_27 : decode cX1_acceptFirst 27 = .ok (.iconst 1, 1) := by decide +kernel
theorem dX1_acceptFirst_28 : decode cX1_acceptFirst 28 = .ok (.ireturn, 1) := by decide +kernel
theorem dX1_acceptSign_0 : decode cX1_acceptSign 0 = .ok (.iload_n 1, 1) := by decide +kernel
theorem dX1_acceptSign_1 : decode cX1_acceptSign 1 = .ok (.bipush 45, 2) := by decide +kernel
theorem dX1_acceptSign_3 : decode cX1_acceptSign 3 = .ok (.if_icmp .eq 11, 3) := by decide +kernel
theorem dX1_acceptSign_6 : decode cX1_acceptSign 6 = .ok (.iload_n 1, 1) := by decide +kernel
theorem dX1_acceptSign_7 : decode cX1_acceptSign 7 = .ok (.bipush 126, 2) := by decide +kernel
theorem dX1_acceptSign_9 : decode cX1_acceptSign 9 = .ok (.if_icmp .eq 5, 3) := by decide +kernel
theorem dX1_acceptSign_12 : decode cX1_acceptSign 12 = .ok (.iconst 0, 1) := by decide +kernel
theorem dX1_acceptSign_13 : decode cX1_acceptSign 13 = .ok (.ireturn, 1) := by decide +kernel
theorem dX1_acceptSign_14 : decode cX1_acceptSign 14 = .ok (.aload_n 0, 1) := by decide +kernel
theorem dX1_acceptSign_15 : decode cX1_acceptSign 15 = .ok (.iload_n 1, 1) := by decide +kernel
theorem dX1_acceptSign_16 : decode cX1_acceptSign 16 = .ok (.bipush 45, 2) := by decide +kernel
theorem dX1_acceptSign_18 : decode cX1_acceptSign 18 = .ok (.if_icmp .ne 7, 3) := by decide +kernel
theorem dX1_acceptSign_21 : decode cX1_acceptSign 21 = .ok (.iconst 1, 1) := by decide +kernel
theorem dX1_acceptSign_22 : decode cX1_acceptSign 22 = .ok (.goto 4, 3) := by decide +kernel
theorem dX1_acceptSign_25 : decode cX1_acceptSign 25 = .ok (.iconst (-1), 1) := by decide +kernel
theorem dX1_acceptSign_26 : decode cX1_acceptSign 26 = .ok (.putfield 51, 3) := by decide +kernel
theorem dX1_acceptSign_29 : decode cX1_acceptSign 29 = .ok (.aload_n 0, 1) := by decide +kernel
theorem dX1_acceptSign_30 : decode cX1_acceptSign 30 = .ok (.iconst 2, 1) := by decide +kernel
theorem dX1_acceptSign_31 : decode cX1_acceptSign 31 = .ok (.putfield 19, 3) := by decide +kernel
theorem dX1_acceptSign_34 : decode cX1_acceptSign 34 = .ok (.iconst 1, 1) := by decide +kernel
theorem dX1_acceptSign_35 : decode cX1_acceptSign 35 = .ok (.ireturn, 1) := by decide +kernel
theorem dX1_acceptSecond_0 : decode cX1_acceptSecond 0 = .ok (.iload_n 1, 1) := by decide +kernel
theorem dX1_acceptSecond_1 : decode cX1_acceptSecond 1 = .ok (.aload_n 0, 1) := by decide +kernel
theorem dX1_acceptSecond_2 : decode cX1_acceptSecond 2 = .ok (.getfield 48, 3) := by decide +kernel
theorem dX1_acceptSecond_5 : decode cX1_acceptSecond 5 = .ok (.if_icmp .eq 11, 3) := by decide +kernel
theorem dX1_acceptSecond_8 : decode cX1_acceptSecond 8 = .ok (.aload_n 2, 1) := by decide +kernel
theorem dX1_acceptSecond_9 : decode cX1_acceptSecond 9 = .ok (.iload_n 1, 1) := by decide +kernel
theorem dX1_acceptSecond_10 : decode cX1_acceptSecond 10 = .ok (.invokevirtual 45, 3) := by decide +kernel
theorem dX1_acceptSecond_13 : decode cX1_acceptSecond 13 = .ok (.ifCond .ne 5, 3) := by decide +kernel
theorem dX1_acceptSecond_16 : decode cX1_acceptSecond 16 = .ok (.iconst 0, 1) := by decide +kernel
theorem dX1_acceptSecond_17 : decode cX1_acceptSecond 17 = .ok (.ireturn, 1) := by decide +kernel
theorem dX1_acceptSecond_18 : decode cX1_acceptSecond 18 = .ok (.aload_n 0, 1) := by decide +kernel
theorem dX1_acceptSecond_19 : decode cX1_acceptSecond 19 = .ok (.iload_n 1, 1) := by decide +kernel
theorem dX1_acceptSecond_20 : decode cX1_acceptSecond 20 = .ok (.putfield 54, 3) := by decide +kernel
theorem dX1_acceptSecond_23 : decode cX1_acceptSecond 23 = .ok (.aload_n 0, 1) := by decide +kernel
theorem dX1_acceptSecond_24 : decode cX1_acceptSecond 24 = .ok (.iconst 3, 1) := by decide +kernel
theorem dX1_acceptSecond_25 : decode cX1_acceptSecond 25 = .ok (.putfield 19, 3) := by decide +kernel
theorem dX1_acceptSecond_28 : decode cX1_acceptSecond 28 = .ok (.iconst 1, 1) := by decide +kernel
theorem dX1_acceptSecond_29 : decode cX1_acceptSecond 29 = .ok (.ireturn, 1) := by decide +kernel
theorem dX1_acceptEnd_0 : decode cX1_acceptEnd 0 = .ok (.iload_n 1, 1) := by decide +kernel
theorem dX1_acceptEnd_1 : decode cX1_acceptEnd 1 = .ok (.bipush 59, 2) := by decide +kernel
theorem dX1_acceptEnd_3 : decode cX1_acceptEnd 3 = .ok (.if_icmp .eq 5, 3) := by decide +kernel
theorem dX1_acceptEnd_6 : decode cX1_acceptEnd 6 = .ok (.iconst 0, 1) := by decide +kernel
theorem dX1_acceptEnd_7 : decode cX1_acceptEnd 7 = .ok (.ireturn, 1) := by decide +kernel
theorem dX1_acceptEnd_8 : decode cX1_acceptEnd 8 = .ok (.aload_n 2, 1) := by decide +kernel
theorem dX1_acceptEnd_9 : decode cX1_acceptEnd 9 = .ok (.aload_n 0, 1) := by decide +kernel
theorem dX1_acceptEnd_10 : decode cX1_acceptEnd 10 = .ok (.getfield 48, 3) := by decide +kernel
theorem dX1_acceptEnd_13 : decode cX1_acceptEnd 13 = .ok (.aload_n 0, 1) := by decide +kernel
theorem dX1_acceptEnd_14 : decode cX1_acceptEnd 14 = .ok (.getfield 54, 3) := by decide +kernel
theorem dX1_acceptEnd_17 : decode cX1_acceptEnd 17 = .ok (.aload_n 0, 1) := by decide +kernel
theorem dX1_acceptEnd_18 : decode cX1_acceptEnd 18 = .ok (.getfield 51, 3) := by decide +kernel
theorem dX1_acceptEnd_21 : decode cX1_acceptEnd 21 = .ok (.invokevirtual 57, 3) := by decide +kernel
theorem dX1_acceptEnd_24 : decode cX1_acceptEnd 24 = .ok (.aload_n 0, 1) := by decide +kernel
theorem dX1_acceptEnd_25 : decode cX1_acceptEnd 25 = .ok (.iconst 0, 1) := by decide +kernel
theorem dX1_acceptEnd_26 : decode cX1_acceptEnd 26 = .ok (.putfield 19, 3) := by decide +kernel
theorem dX1_acceptEnd_29 : decode cX1_acceptEnd 29 = .ok (.iconst 1, 1) := by decide +kernel
theorem dX1_acceptEnd_30 : decode cX1_acceptEnd 30 = .ok (.ireturn, 1) := by decide +kernel
end
section
theorem dX2_init_0 : decode cX2_init 0 = .ok (.aload_n 0, 1) := by decide +kernel
theorem dX2_init_1 : decode cX2_init 1 = .ok (.invokespecial 3, 3) := by decide +kernel
theorem dX2_init_4 : decode cX2_init 4 = .ok (.aload_n 0, 1) := by decide +kernel
theorem dX2_init_5 : decode cX2_init 5 = .ok (.iconst 4, 1) := by decide +kernel
theorem dX2_init_6 : decode cX2_init 6 = .ok (.putfield 9, 3) := by decide +kernel
theorem dX2_init_9 : decode cX2_init 9 = .ok (.aload_n 0, 1) := by decide +kernel
theorem dX2_init_10 : decode cX2_init 10 = .ok (.iconst 0, 1) := by decide +kernel
theorem dX2_init_11 : decode cX2_init 11 = .ok (.putfield 15, 3) := by decide +kernel
theorem dX2_init_14 : decode cX2_init 14 = .ok (.aload_n 0, 1) := by decide +kernel
theorem dX2_init_15 : decode cX2_init 15 = .ok (.bipush 9, 2) := by decide +kernel
theorem dX2_init_17 : decode cX2_init 17 = .ok (.newarray .int, 2) := by decide +kernel
theorem dX2_init_19 : decode cX2_init 19 = .ok (.putfield 18, 3) := by decide +kernel
theorem dX2_init_22 : decode cX2_init 22 = .ok (.aload_n 0, 1) := by decide +kernel
theorem dX2_init_23 : decode cX2_init 23 = .ok (.bipush 9, 2) := by decide +kernel
theorem dX2_init_25 : decode cX2_init 25 = .ok (.newarray .int, 2) := by decide +kernel
theorem dX2_init_27 : decode cX2_init 27 = .ok (.putfield 22, 3) := by decide +kernel
theorem dX2_init_30 : decode cX2_init 30 = .ok (.aload_n 0, 1) := by decide +kernel
theorem dX2_init_31 : decode cX2_init 31 = .ok (.bipush 9, 2) := by decide +kernel
theorem dX2_init_33 : decode cX2_init 33 = .ok (.newarray .int, 2) := by decide +kernel
theorem dX2_init_35 : decode cX2_init 35 = .ok (.putfield 25, 3) := by decide +kernel
theorem dX2_init_38 : decode cX2_init 38 = .ok (.return_, 1) := by decide +kernel
theorem dX2_makeEmpty_0 : decode cX2_makeEmpty 0 = .ok (.aload_n 0, 1) := by decide +kernel
theorem dX2_makeEmpty_1 : decode cX2_makeEmpty 1 = .ok (.iload_n 1, 1) := by decide +kernel
theorem dX2_makeEmpty_2 : decode cX2_makeEmpty 2 = .ok (.putfield 9, 3) := by decide +kernel
theorem dX2_makeEmpty_5 : decode cX2_makeEmpty 5 = .ok (.aload_n 0, 1) := by decide +kernel
theorem dX2_makeEmpty_6 : decode cX2_makeEmpty 6 = .ok (.iconst 0, 1) := by decide +kernel
theorem dX2_makeEmpty_7 : decode cX2_makeEmpty 7 = .ok (.putfield 15, 3) := by decide +kernel
theorem dX2_makeEmpty_10 : decode cX2_makeEmpty 10 = .ok (.return_, 1) := by decide +kernel
theorem dX2_copyFrom_0 : decode cX2_copyFrom 0 = .ok (.aload_n 0, 1) := by decide +kernel
theorem dX2_copyFrom_1 : decode cX2_copyFrom 1 = .ok (.aload_n 1, 1) := by decide +kernel
theorem dX2_copyFrom_2 : decode cX2_copyFrom 2 = .ok (.getfield 9, 3) := by decide +kernel
theorem dX2_copyFrom_5 : decode cX2_copyFrom 5 = .ok (.putfield 9, 3) := by decide +kernel
theorem dX2_copyFrom_8 : decode cX2_copyFrom 8 = .ok (.aload_n 0, 1) := by decide +kernel
theorem dX2_copyFrom_9 : decode cX2_copyFrom 9 = .ok (.aload_n 1, 1) := by decide +kernel
theorem dX2_copyFrom_10 : decode cX2_copyFrom 10 = .ok (.getfield 15, 3) := by decide +kernel
theorem dX2_copyFrom_13 : decode cX2_copyFrom 13 = .ok (.putfield 15, 3) := by decide +kernel
theorem dX2_copyFrom_16 : decode cX2_copyFrom 16 = .ok (.iconst 0, 1) := by decide +kernel
theorem dX2_copyFrom_17 : decode cX2_copyFrom 17 = .ok (.istore_n 2, 1) := by decide +kernel
theorem dX2_copyFrom_18 : decode cX2_copyFrom 18 = .ok (.iload_n 2, 1) := by decide +kernel
theorem dX2_copyFrom_19 : decode cX2_copyFrom 19 = .ok (.bipush 9, 2) := by decide +kernel
theorem dX2_copyFrom_21 : decode cX2_copyFrom 21 = .ok (.if_icmp .ge 45, 3) := by decide +kernel
theorem dX2_copyFrom_24 : decode cX2_copyFrom 24 = .ok (.aload_n 0, 1) := by decide +kernel
theorem dX2_copyFrom_25 : decode cX2_copyFrom 25 = .ok (.getfield 18, 3) := by decide +kernel
theorem dX2_copyFrom_28 : decode cX2_copyFrom 28 = .ok (.iload_n 2, 1) := by decide +kernel
theorem dX2_copyFrom_29 : decode cX2_copyFrom 29 = .ok (.aload_n 1, 1) := by decide +kernel
theorem dX2_copyFrom_30 : decode cX2_copyFrom 30 = .ok (.getfield 18, 3) := by decide +kernel
theorem dX2_copyFrom_33 : decode cX2_copyFrom 33 = .ok (.iload_n 2, 1) := by decide +kernel
theorem dX2_copyFrom_34 : decode cX2_copyFrom 34 = .ok (.iaload, 1) := by decide +kernel
theorem dX2_copyFrom_35 : decode cX2_copyFrom 35 = .ok (.iastore, 1) := by decide +kernel
theorem dX2_copyFrom_36 : decode cX2_copyFrom 36 = .ok (.aload_n 0, 1) := by decide +kernel
theorem dX2_copyFrom_37 : decode cX2_copyFrom 37 = .ok (.getfield 22, 3) := by decide +kernel
theorem dX2_copyFrom_40 : decode cX2_copyFrom 40 = .ok (.iload_n 2, 1) := by decide +kernel
theorem dX2_copyFrom_41 : decode cX2_copyFrom 41 = .ok (.aload_n 1, 1) := by decide +kernel
theorem dX2_copyFrom_42 : decode cX2_copyFrom 42 = .ok (.getfield 22, 3) := by decide +kernel
theorem dX2_copyFrom_45 : decode cX2_copyFrom 45 = .ok (.iload_n 2, 1) := by decide +kernel
theorem dX2_copyFrom_46 : decode cX2_copyFrom 46 = .ok (.iaload, 1) := by decide +kernel
theorem dX2_copyFrom_47 : decode cX2_copyFrom 47 = .ok (.iastore, 1) := by decide +kernel
theorem dX2_copyFrom_48 : decode cX2_copyFrom 48 = .ok (.aload_n 0, 1) := by decide +kernel
theorem dX2_copyFrom_49 : decode cX2_copyFrom 49 = .ok (.getfield 25, 3) := by decide +kernel
theorem dX2_copyFrom_52 : decode cX2_copyFrom 52 = .ok (.iload_n 2, 1) := by decide +kernel
theorem dX2_copyFrom_53 : decode cX2_copyFrom 53 = .ok (.aload_n 1, 1) := by decide +kernel
theorem dX2_copyFrom_54 : decode cX2_copyFrom 54 = .ok (.getfield 25, 3) := by decide +kernel
theorem dX2_copyFrom_57 : decode cX2_copyFrom 57 = .ok (.iload_n 2, 1) := by decide +kernel
theorem dX2_copyFrom_58 : decode cX2_copyFrom 58 = .ok (.iaload, 1) := by decide +kernel
theorem dX2_copyFrom_59 : decode cX2_copyFrom 59 = .ok (.iastore, 1) := by decide +kernel
theorem dX2_copyFrom_60 : decode cX2_copyFrom 60 = .ok (.iinc 2 1, 3) := by decide +kernel
theorem dX2_copyFrom_63 : decode cX2_copyFrom 63 = .ok (.goto (-45), 3) := by decide +kernel
theorem dX2_copyFrom_66 : decode cX2_copyFrom 66 = .ok (.return_, 1) := by decide +kernel
theorem dX2_isFull_0 : decode cX2_isFull 0 = .ok (.aload_n 0, 1) := by decide +kernel
theorem dX2_isFull_1 : decode cX2_isFull 1 = .ok (.getfield 15, 3) := by decide +kernel
theorem dX2_isFull_4 : decode cX2_isFull 4 = .ok (.bipush 9, 2) := by decide +kernel
theorem dX2_isFull_6 : decode cX2_isFull 6 = .ok (.if_icmp .lt 7, 3) := by decide +kernel
theorem dX2_isFull_9 : decode cX2_isFull 9 = .ok (.iconst 1, 1) := by decide +kernel
theorem dX2_isFull_10 : decode cX2_isFull 10 = .ok (.goto 4, 3) := by decide +kernel
theorem dX2_isFull_13 : decode cX2_isFull 13 = .ok (.iconst 0, 1) := by decide +kernel
theorem dX2_isFull_14 : decode cX2_isFull 14 = .ok (.ireturn, 1) := by decide +kernel
theorem dX2_hasVertex_0 : decode cX2_hasVertex 0 = .ok (.iload_n 1, 1) := by decide +kernel
theorem dX2_hasVertex_1 : decode cX2_hasVertex 1 = .ok (.ifCond .lt 15, 3) := by decide +kernel
theorem dX2_hasVertex_4 : decode cX2_hasVertex 4 = .ok (.iload_n 1, 1) := by decide +kernel
theorem dX2_hasVertex_5 : decode cX2_hasVertex 5 = .ok (.aload_n 0, 1) := by decide +kernel
theorem dX2_hasVertex_6 : decode cX2_hasVertex 6 = .ok (.getfield 9, 3) := by decide +kernel
theorem dX2_hasVertex_9 : decode cX2_hasVertex 9 = .ok (.if_icmp .ge 7, 3) := by decide +kernel
theorem dX2_hasVertex_12 : decode cX2_hasVertex 12 = .ok (.iconst 1, 1) := by decide +kernel
theorem dX2_hasVertex_13 : decode cX2_hasVertex 13 = .ok (.goto 4, 3) := by decide +kernel
theorem dX2_hasVertex_16 : decode cX2_hasVertex 16 = .ok (.iconst 0, 1) := by decide +kernel
theorem dX2_hasVertex_17 : decode cX2_hasVertex 17 = .ok (.ireturn, 1) := by decide +kernel
theorem dX2_hasEdge_0 : decode cX2_hasEdge 0 = .ok (.iload_n 1, 1) := by decide +kernel
theorem dX2_hasEdge_1 : decode cX2_hasEdge 1 = .ok (.ifCond .lt 15, 3) := by decide +kernel
theorem dX2_hasEdge_4 : decode cX2_hasEdge 4 = .ok (.iload_n 1, 1) := by decide +kernel
theorem dX2_hasEdge_5 : decode cX2_hasEdge 5 = .ok (.aload_n 0, 1) := by decide +kernel
theorem dX2_hasEdge_6 : decode cX2_hasEdge 6 = .ok (.getfield 15, 3) := by decide +kernel
theorem dX2_hasEdge_9 : decode cX2_hasEdge 9 = .ok (.if_icmp .ge 7, 3) := by decide +kernel
theorem dX2_hasEdge_12 : decode cX2_hasEdge 12 = .ok (.iconst 1, 1) := by decide +kernel
theorem dX2_hasEdge_13 : decode cX2_hasEdge 13 = .ok (.goto 4, 3) := by decide +kernel
theorem dX2_hasEdge_16 : decode cX2_hasEdge 16 = .ok (.iconst 0, 1) := by decide +kernel
theorem dX2_hasEdge_17 : decode cX2_hasEdge 17 = .ok (.ireturn, 1) := by decide +kernel
theorem dX2_hasDirected_0 : decode cX2_hasDirected 0 = .ok (.iload_n 1, 1) := by decide +kernel
theorem dX2_hasDirected_1 : decode cX2_hasDirected 1 = .ok (.ifCond .lt 17, 3) := by decide +kernel
theorem dX2_hasDirected_4 : decode cX2_hasDirected 4 = .ok (.iload_n 1, 1) := by decide +kernel
theorem dX2_hasDirected_5 : decode cX2_hasDirected 5 = .ok (.iconst 2, 1) := by decide +kernel
theorem dX2_hasDirected_6 : decode cX2_hasDirected 6 = .ok (.aload_n 0, 1) := by decide +kernel
theorem dX2_hasDirected_7 : decode cX2_hasDirected 7 = .ok (.getfield 15, 3) := by decide +kernel
theorem dX2_hasDirected_10 : decode cX2_hasDirected 10 = .ok (.imul, 1) := by decide +kernel
theorem dX2_hasDirected_11 : decode cX2_hasDirected 11 = .ok (.if_icmp .ge 7, 3) := by decide +kernel
theorem dX2_hasDirected_14 : decode cX2_hasDirected 14 = .ok (.iconst 1, 1) := by decide +kernel
theorem dX2_hasDirected_15 : decode cX2_hasDirected 15 = .ok (.goto 4, 3) := by decide +kernel
theorem dX2_hasDirected_18 : decode cX2_hasDirected 18 = .ok (.iconst 0, 1) := by decide +kernel
theorem dX2_hasDirected_19 : decode cX2_hasDirected 19 = .ok (.ireturn, 1) := by decide +kernel
theorem dX2_append_0 : decode cX2_append 0 = .ok (.aload_n 0, 1) := by decide +kernel
theorem dX2_append_1 : decode cX2_append 1 = .ok (.invokevirtual 28, 3) := by decide +kernel
theorem dX2_append_4 : decode cX2_append 4 = .ok (.ifCond .eq 4, 3) := by decide +kernel
theorem dX2_append_7 : decode cX2_append 7 = .ok (.return_, 1) := by decide +kernel
theorem dX2_append_8 : decode cX2_append 8 = .ok (.aload_n 0, 1) := by decide +kernel
theorem dX2_append_9 : decode cX2_append 9 = .ok (.getfield 18, 3) := by decide +kernel
theorem dX2_append_12 : decode cX2_append 12 = .ok (.aload_n 0, 1) := by decide +kernel
theorem dX2_append_13 : decode cX2_append 13 = .ok (.getfield 15, 3) := by decide +kernel
theorem dX2_append_16 : decode cX2_append 16 = .ok (.iload_n 1, 1) := by decide +kernel
theorem dX2_append_17 : decode cX2_append 17 = .ok (.iastore, 1) := by decide +kernel
theorem dX2_append_18 : decode cX2_append 18 = .ok (.aload_n 0, 1) := by decide +kernel
theorem dX2_append_19 : decode cX2_append 19 = .ok (.getfield 22, 3) := by decide +kernel
theorem dX2_append_22 : decode cX2_append 22 = .ok (.aload_n 0, 1) := by decide +kernel
theorem dX2_append_23 : decode cX2_append 23 = .ok (.getfield 15, 3) := by decide +kernel
theorem dX2_append_26 : decode cX2_append 26 = .ok (.iload_n 2, 1) := by decide +kernel
theorem dX2_append_27 : decode cX2_append 27 = .ok (.iastore, 1) := by decide +kernel
theorem dX2_append_28 : decode cX2_append 28 = .ok (.aload_n 0, 1) := by decide +kernel
theorem dX2_append_29 : decode cX2_append 29 = .ok (.getfield 25, 3) := by decide +kernel
theorem dX2_append_32 : decode cX2_append 32 = .ok (.aload_n 0, 1) := by decide +kernel
theorem dX2_append_33 : decode cX2_append 33 = .ok (.getfield 15, 3) := by decide +kernel
theorem dX2_append_36 : decode cX2_append 36 = .ok (.iload_n 3, 1) := by decide +kernel
theorem dX2_append_37 : decode cX2_append 37 = .ok (.iastore, 1) := by decide +kernel
theorem dX2_append_38 : decode cX2_append 38 = .ok (.aload_n 0, 1) := by decide +kernel
theorem dX2_append_39 : decode cX2_append 39 = .ok (.dup, 1) := by decide +kernel
theorem dX2_append_40 : decode cX2_append 40 = .ok (.getfield 15, 3) := by decide +kernel
theorem dX2_append_43 : decode cX2_append 43 = .ok (.iconst 1, 1) := by decide +kernel
theorem dX2_append_44 : decode cX2_append 44 = .ok (.iadd, 1) := by decide +kernel
theorem dX2_append_45 : decode cX2_append 45 = .ok (.putfield 15, 3) := by decide +kernel
theorem dX2_append_48 : decode cX2_append 48 = .ok (.return_, 1) := by decide +kernel
theorem dX2_delete_0 : decode cX2_delete 0 = .ok (.iload_n 1, 1) := by decide +kernel
theorem dX2_delete_1 : decode cX2_delete 1 = .ok (.istore_n 2, 1) := by decide +kernel
theorem dX2_delete_2 : decode cX2_delete 2 = .ok (.iload_n 2, 1) := by decide +kernel
theorem dX2_delete_3 : decode cX2_delete 3 = .ok (.aload_n 0, 1) := by decide +kernel
theorem dX2_delete_4 : decode cX2_delete 4 = .ok (.getfield 15, 3) := by decide +kernel
theorem dX2_delete_7 : decode cX2_delete 7 = .ok (.iconst 1, 1) := by decide +kernel
theorem dX2_delete_8 : decode cX2_delete 8 = .ok (.isub, 1) := by decide +kernel
theorem dX2_delete_9 : decode cX2_delete 9 = .ok (.if_icmp .ge 51, 3) := by decide +kernel
theorem dX2_delete_12 : decode cX2_delete 12 = .ok (.aload_n 0, 1) := by decide +kernel
theorem dX2_delete_13 : decode cX2_delete 13 = .ok (.getfield 18, 3) := by decide +kernel
theorem dX2_delete_16 : decode cX2_delete 16 = .ok (.iload_n 2, 1) := by decide +kernel
theorem dX2_delete_17 : decode cX2_delete 17 = .ok (.aload_n 0, 1) := by decide +kernel
theorem dX2_delete_18 : decode cX2_delete 18 = .ok (.getfield 18, 3) := by decide +kernel
theorem dX2_delete_21 : decode cX2_delete 21 = .ok (.iload_n 2, 1) := by decide +kernel
theorem dX2_delete_22 : decode cX2_delete 22 = .ok (.iconst 1, 1) := by decide +kernel
theorem dX2_delete_23 : decode cX2_delete 23 = .ok (.iadd, 1) := by decide +kernel
theorem dX2_delete_24 : decode cX2_delete 24 = .ok (.iaload, 1) := by decide +kernel
theorem dX2_delete_25 : decode cX2_delete 25 = .ok (.iastore, 1) := by decide +kernel
theorem dX2_delete_26 : decode cX2_delete 26 = .ok (.aload_n 0, 1) := by decide +kernel
theorem dX2_delete_27 : decode cX2_delete 27 = .ok (.getfield 22, 3) := by decide +kernel
theorem dX2_delete_30 : decode cX2_delete 30 = .ok (.iload_n 2, 1) := by decide +kernel
theorem dX2_delete_31 : decode cX2_delete 31 = .ok (.aload_n 0, 1) := by decide +kernel
theorem dX2_delete_32 : decode cX2_delete 32 = .ok (.getfield 22, 3) := by decide +kernel
theorem dX2_delete_35 : decode cX2_delete 35 = .ok (.iload_n 2, 1) := by decide +kernel
theorem dX2_delete_36 : decode cX2_delete 36 = .ok (.iconst 1, 1) := by decide +kernel
theorem dX2_delete_37 : decode cX2_delete 37 = .ok (.iadd, 1) := by decide +kernel
theorem dX2_delete_38 : decode cX2_delete 38 = .ok (.iaload, 1) := by decide +kernel
theorem dX2_delete_39 : decode cX2_delete 39 = .ok (.iastore, 1) := by decide +kernel
theorem dX2_delete_40 : decode cX2_delete 40 = .ok (.aload_n 0, 1) := by decide +kernel
theorem dX2_delete_41 : decode cX2_delete 41 = .ok (.getfield 25, 3) := by decide +kernel
theorem dX2_delete_44 : decode cX2_delete 44 = .ok (.iload_n 2, 1) := by decide +kernel
theorem dX2_delete_45 : decode cX2_delete 45 = .ok (.aload_n 0, 1) := by decide +kernel
theorem dX2_delete_46 : decode cX2_delete 46 = .ok (.getfield 25, 3) := by decide +kernel
theorem dX2_delete_49 : decode cX2_delete 49 = .ok (.iload_n 2, 1) := by decide +kernel
theorem dX2_delete_50 : decode cX2_delete 50 = .ok (.iconst 1, 1) := by decide +kernel
theorem dX2_delete_51 : decode cX2_delete 51 = .ok (.iadd, 1) := by decide +kernel
theorem dX2_delete_52 : decode cX2_delete 52 = .ok (.iaload, 1) := by decide +kernel
theorem dX2_delete_53 : decode cX2_delete 53 = .ok (.iastore, 1) := by decide +kernel
theorem dX2_delete_54 : decode cX2_delete 54 = .ok (.iinc 2 1, 3) := by decide +kernel
theorem dX2_delete_57 : decode cX2_delete 57 = .ok (.goto (-55), 3) := by decide +kernel
theorem dX2_delete_60 : decode cX2_delete 60 = .ok (.aload_n 0, 1) := by decide +kernel
theorem dX2_delete_61 : decode cX2_delete 61 = .ok (.dup, 1) := by decide +kernel
theorem dX2_delete_62 : decode cX2_delete 62 = .ok (.getfield 15, 3) := by decide +kernel
theorem dX2_delete_65 : decode cX2_delete 65 = .ok (.iconst 1, 1) := by decide +kernel
theorem dX2_delete_66 : decode cX2_delete 66 = .ok (.isub, 1) := by decide +kernel
theorem dX2_delete_67 : decode cX2_delete 67 = .ok (.putfield 15, 3) := by decide +kernel
theorem dX2_delete_70 : decode cX2_delete 70 = .ok (.return_, 1) := by decide +kernel
theorem dX2_startOf_0 : decode cX2_startOf 0 = .ok (.iload_n 1, 1) := by decide +kernel
theorem dX2_startOf_1 : decode cX2_startOf 1 = .ok (.iconst 2, 1) := by decide +kernel
theorem dX2_startOf_2 : decode cX2_startOf 2 = .ok (.irem, 1) := by decide +kernel
theorem dX2_startOf_3 : decode cX2_startOf 3 = .ok (.ifCond .ne 14, 3) := by decide +kernel
theorem dX2_startOf_6 : decode cX2_startOf 6 = .ok (.aload_n 0, 1) := by decide +kernel
theorem dX2_startOf_7 : decode cX2_startOf 7 = .ok (.getfield 18, 3) := by decide +kernel
theorem dX2_startOf_10 : decode cX2_startOf 10 = .ok (.iload_n 1, 1) := by decide +kernel
theorem dX2_startOf_11 : decode cX2_startOf 11 = .ok (.iconst 2, 1) := by decide +kernel
theorem dX2_startOf_12 : decode cX2_startOf 12 = .ok (.idiv, 1) := by decide +kernel
theorem dX2_startOf_13 : decode cX2_startOf 13 = .ok (.iaload, 1) := by decide +kernel
theorem dX2_startOf_14 : decode cX2_startOf 14 = .ok (.goto 11, 3) := by decide +kernel
theorem dX2_startOf_17 : decode cX2_startOf 17 = .ok (.aload_n 0, 1) := by decide +kernel
theorem dX2_startOf_18 : decode cX2_startOf 18 = .ok (.getfield 22, 3) := by decide +kernel
theorem dX2_startOf_21 : decode cX2_startOf 21 = .ok (.iload_n 1, 1) := by decide +kernel
theorem dX2_startOf_22 : decode cX2_startOf 22 = .ok (.iconst 2, 1) := by decide +kernel
theorem dX2_startOf_23 : decode cX2_startOf 23 = .ok (.idiv, 1) := by decide +kernel
theorem dX2_startOf_24 : decode cX2_startOf 24 = .ok (.iaload, 1) := by decide +kernel
theorem dX2_startOf_25 : decode cX2_startOf 25 = .ok (.ireturn, 1) := by decide +kernel
theorem dX2_endOf_0 : decode cX2_endOf 0 = .ok (.iload_n 1, 1) := by decide +kernel
theorem dX2_endOf_1 : decode cX2_endOf 1 = .ok (.iconst 2, 1) := by decide +kernel
theorem dX2_endOf_2 : decode cX2_endOf 2 = .ok (.irem, 1) := by decide +kernel
theorem dX2_endOf_3 : decode cX2_endOf 3 = .ok (.ifCond .ne 14, 3) := by decide +kernel
theorem dX2_endOf_6 : decode cX2_endOf 6 = .ok (.aload_n 0, 1) := by decide +kernel
theorem dX2_endOf_7 : decode cX2_endOf 7 = .ok (.getfield 22, 3) := by decide +kernel
theorem dX2_endOf_10 : decode cX2_endOf 10 = .ok (.iload_n 1, 1) := by decide +kernel
theorem dX2_endOf_11 : decode cX2_endOf 11 = .ok (.iconst 2, 1) := by decide +kernel
theorem dX2_endOf_12 : decode cX2_endOf 12 = .ok (.idiv, 1) := by decide +kernel
theorem dX2_endOf_13 : decode cX2_endOf 13 = .ok (.iaload, 1) := by decide +kernel
theorem dX2_endOf_14 : decode cX2_endOf 14 = .ok (.goto 11, 3) := by decide +kernel
theorem dX2_endOf_17 : decode cX2_endOf 17 = .ok (.aload_n 0, 1) := by decide +kernel
theorem dX2_endOf_18 : decode cX2_endOf 18 = .ok (.getfield 18, 3) := by decide +kernel
theorem dX2_endOf_21 : decode cX2_endOf 21 = .ok (.iload_n 1, 1) := by decide +kernel
theorem dX2_endOf_22 : decode cX2_endOf 22 = .ok (.iconst 2, 1) := by decide +kernel
theorem dX2_endOf_23 : decode cX2_endOf 23 = .ok (.idiv, 1) := by decide +kernel
theorem dX2_endOf_24 : decode cX2_endOf 24 = .ok (.iaload, 1) := by decide +kernel
theorem dX2_endOf_25 : decode cX2_endOf 25 = .ok (.ireturn, 1) := by decide +kernel
theorem dX2_leadsOn_0 : decode cX2_leadsOn 0 = .ok (.aload_n 0, 1) := by decide +kernel
theorem dX2_leadsOn_1 : decode cX2_leadsOn 1 = .ok (.iload_n 1, 1) := by decide +kernel
theorem dX2_leadsOn_2 : decode cX2_leadsOn 2 = .ok (.invokevirtual 32, 3) := by decide +kernel
theorem dX2_leadsOn_5 : decode cX2_leadsOn 5 = .ok (.aload_n 0, 1) := by decide +kernel
theorem dX2_leadsOn_6 : decode cX2_leadsOn 6 = .ok (.iload_n 2, 1) := by decide +kernel
theorem dX2_leadsOn_7 : decode cX2_leadsOn 7 = .ok (.invokevirtual 36, 3) := by decide +kernel
theorem dX2_leadsOn_10 : decode cX2_leadsOn 10 = .ok (.if_icmp .ne 14, 3) := by decide +kernel
theorem dX2_leadsOn_13 : decode cX2_leadsOn 13 = .ok (.iload_n 2, 1) := by decide +kernel
theorem dX2_leadsOn_14 : decode cX2_leadsOn 14 = .ok (.iload_n 1, 1) := by decide +kernel
theorem dX2_leadsOn_15 : decode cX2_leadsOn 15 = .ok (.iconst 1, 1) := by decide +kernel
theorem dX2_leadsOn_16 : decode cX2_leadsOn 16 = .ok (.ixor, 1) := by decide +kernel
theorem dX2_leadsOn_17 : decode cX2_leadsOn 17 = .ok (.if_icmp .eq 7, 3) := by decide +kernel
theorem dX2_leadsOn_20 : decode cX2_leadsOn 20 = .ok (.iconst 1, 1) := by decide +kernel
theorem dX2_leadsOn_21 : decode cX2_leadsOn 21 = .ok (.goto 4, 3) := by decide +kernel
theorem dX2_leadsOn_24 : decode cX2_leadsOn 24 = .ok (.iconst 0, 1) := by decide +kernel
theorem dX2_leadsOn_25 : decode cX2_leadsOn 25 = .ok (.ireturn, 1) := by decide +kernel
theorem dX2_edgesAt_0 : decode cX2_edgesAt 0 = .ok (.iconst 0, 1) := by decide +kernel
theorem dX2_edgesAt_1 : decode cX2_edgesAt 1 = .ok (.istore_n 2, 1) := by decide +kernel
theorem dX2_edgesAt_2 : decode cX2_edgesAt 2 = .ok (.iconst 0, 1) := by decide +kernel
theorem dX2_edgesAt_3 : decode cX2_edgesAt 3 = .ok (.istore_n 3, 1) := by decide +kernel
theorem dX2_edgesAt_4 : decode cX2_edgesAt 4 = .ok (.iload_n 3, 1) := by decide +kernel
theorem dX2_edgesAt_5 : decode cX2_edgesAt 5 = .ok (.aload_n 0, 1) := by decide +kernel
theorem dX2_edgesAt_6 : decode cX2_edgesAt 6 = .ok (.getfield 15, 3) := by decide +kernel
theorem dX2_edgesAt_9 : decode cX2_edgesAt 9 = .ok (.if_icmp .ge 32, 3) := by decide +kernel
theorem dX2_edgesAt_12 : decode cX2_edgesAt 12 = .ok (.aload_n 0, 1) := by decide +kernel
theorem dX2_edgesAt_13 : decode cX2_edgesAt 13 = .ok (.getfield 18, 3) := by decide +kernel
theorem dX2_edgesAt_16 : decode cX2_edgesAt 16 = .ok (.iload_n 3, 1) := by decide +kernel
theorem dX2_edgesAt_17 : decode cX2_edgesAt 17 = .ok (.iaload, 1) := by decide +kernel
theorem dX2_edgesAt_18 : decode cX2_edgesAt 18 = .ok (.iload_n 1, 1) := by decide +kernel
theorem dX2_edgesAt_19 : decode cX2_edgesAt 19 = .ok (.if_icmp .eq 13, 3) := by decide +kernel
theorem dX2_edgesAt_22 : decode cX2_edgesAt 22 = .ok (.aload_n 0, 1) := by decide +kernel
theorem dX2_edgesAt_23 : decode cX2_edgesAt 23 = .ok (.getfield 22, 3) := by decide +kernel
theorem dX2_edgesAt_26 : decode cX2_edgesAt 26 = .ok (.iload_n 3, 1) := by decide +kernel
theorem dX2_edgesAt_27 : decode cX2_edgesAt 27 = .ok (.iaload, 1) := by decide +kernel
theorem dX2_edgesAt_28 : decode cX2_edgesAt 28 = .ok (.iload_n 1, 1) := by decide +kernel
theorem dX2_edgesAt_29 : decode cX2_edgesAt 29 = .ok (.if_icmp .ne 6, 3) := by decide +kernel
theorem dX2_edgesAt_32 : decode cX2_edgesAt 32 = .ok (.iinc 2 1, 3) := by decide +kernel
theorem dX2_edgesAt_35 : decode cX2_edgesAt 35 = .ok (.iinc 3 1, 3) := by decide +kernel
theorem dX2_edgesAt_38 : decode cX2_edgesAt 38 = .ok (.goto (-34), 3) := by decide +kernel
theorem dX2_edgesAt_41 : decode cX2_edgesAt 41 = .ok (.iload_n 2, 1) := by decide +kernel
theorem dX2_edgesAt_42 : decode cX2_edgesAt 42 = .ok (.ireturn, 1) := by decide +kernel
theorem dX2_edgesBetween_0 : decode cX2_edgesBetween 0 = .ok (.iconst 0, 1) := by decide +kernel
theorem dX2_edgesBetween_1 : decode cX2_edgesBetween 1 = .ok (.istore_n 3, 1) := by decide +kernel
theorem dX2_edgesBetween_2 : decode cX2_edgesBetween 2 = .ok (.iconst 0, 1) := by decide +kernel
theorem dX2_edgesBetween_3 : decode cX2_edgesBetween 3 = .ok (.istore 4, 2) := by decide +kernel
theorem dX2_edgesBetween_5 : decode cX2_edgesBetween 5 = .ok (.iload 4, 2) := by decide +kernel
theorem dX2_edgesBetween_7 : decode cX2_edgesBetween 7 = .ok (.aload_n 0, 1) := by decide +kernel
theorem dX2_edgesBetween_8 : decode cX2_edgesBetween 8 = .ok (.getfield 15, 3) := by decide +kernel
theorem dX2_edgesBetween_11 : decode cX2_edgesBetween 11 = .ok (.if_icmp .ge 80, 3) := by decide +kernel
theorem dX2_edgesBetween_14 : decode cX2_edgesBetween 14 = .ok (.aload_n 0, 1) := by decide +kernel
theorem dX2_edgesBetween_15 : decode cX2_edgesBetween 15 = .ok (.getfield 18, 3) := by decide +kernel
theorem dX2_edgesBetween_18 : decode cX2_edgesBetween 18 = .ok (.iload 4, 2) := by decide +kernel
theorem dX2_edgesBetween_20 : decode cX2_edgesBetween 20 = .ok (.iaload, 1) := by decide +kernel
theorem dX2_edgesBetween_21 : decode cX2_edgesBetween 21 = .ok (.iload_n 1, 1) := by decide +kernel
theorem dX2_edgesBetween_22 : decode cX2_edgesBetween 22 = .ok (.if_icmp .ne 18, 3) := by decide +kernel
theorem dX2_edgesBetween_25 : decode cX2_edgesBetween 25 = .ok (.aload_n 0, 1) := by decide +kernel
theorem dX2_edgesBetween_26 : decode cX2_edgesBetween 26 = .ok (.getfield 22, 3) := by decide +kernel
theorem dX2_edgesBetween_29 : decode cX2_edgesBetween 29 = .ok (.iload 4, 2) := by decide +kernel
theorem dX2_edgesBetween_31 : decode cX2_edgesBetween 31 = .ok (.iaload, 1) := by decide +kernel
theorem dX2_edgesBetween_32 : decode cX2_edgesBetween 32 = .ok (.iload_n 2, 1) := by decide +kernel
theorem dX2_edgesBetween_33 : decode cX2_edgesBetween 33 = .ok (.if_icmp .ne 7, 3) := by decide +kernel
theorem dX2_edgesBetween_36 : decode cX2_edgesBetween 36 = .ok (.iconst 1, 1) := by decide +kernel
theorem dX2_edgesBetween_37 : decode cX2_edgesBetween 37 = .ok (.goto 4, 3) := by decide +kernel
theorem dX2_edgesBetween_40 : decode cX2_edgesBetween 40 = .ok (.iconst 0, 1) := by decide +kernel
theorem dX2_edgesBetween_41 : decode cX2_edgesBetween 41 = .ok (.istore 5, 2) := by decide +kernel
theorem dX2_edgesBetween_43 : decode cX2_edgesBetween 43 = .ok (.aload_n 0, 1) := by decide +kernel
theorem dX2_edgesBetween_44 : decode cX2_edgesBetween 44 = .ok (.getfield 18, 3) := by decide +kernel
theorem dX2_edgesBetween_47 : decode cX2_edgesBetween 47 = .ok (.iload 4, 2) := by decide +kernel
theorem dX2_edgesBetween_49 : decode cX2_edgesBetween 49 = .ok (.iaload, 1) := by decide +kernel
theorem dX2_edgesBetween_50 : decode cX2_edgesBetween 50 = .ok (.iload_n 2, 1) := by decide +kernel
theorem dX2_edgesBetween_51 : decode cX2_edgesBetween 51 = .ok (.if_icmp .ne 18, 3) := by decide +kernel
theorem dX2_edgesBetween_54 : decode cX2_edgesBetween 54 = .ok (.aload_n 0, 1) := by decide +kernel
theorem dX2_edgesBetween_55 : decode cX2_edgesBetween 55 = .ok (.getfield 22, 3) := by decide +kernel
theorem dX2_edgesBetween_58 : decode cX2_edgesBetween 58 = .ok (.iload 4, 2) := by decide +kernel
theorem dX2_edgesBetween_60 : decode cX2_edgesBetween 60 = .ok (.iaload, 1) := by decide +kernel
theorem dX2_edgesBetween_61 : decode cX2_edgesBetween 61 = .ok (.iload_n 1, 1) := by decide +kernel
theorem dX2_edgesBetween_62 : decode cX2_edgesBetween 62 = .ok (.if_icmp .ne 7, 3) := by decide +kernel
theorem dX2_edgesBetween_65 : decode cX2_edgesBetween 65 = .ok (.iconst 1, 1) := by decide +kernel
theorem dX2_edgesBetween_66 : decode cX2_edgesBetween 66 = .ok (.goto 4, 3) := by decide +kernel
theorem dX2_edgesBetween_69 : decode cX2_edgesBetween 69 = .ok (.iconst 0, 1) := by decide +kernel
theorem dX2_edgesBetween_70 : decode cX2_edgesBetween 70 = .ok (.istore 6, 2) := by decide +kernel
theorem dX2_edgesBetween_72 : decode cX2_edgesBetween 72 = .ok (.iload 5, 2) := by decide +kernel
theorem dX2_edgesBetween_74 : decode cX2_edgesBetween 74 = .ok (.ifCond .ne 8, 3) := by decide +kernel
theorem dX2_edgesBetween_77 : decode cX2_edgesBetween 77 = .ok (.iload 6, 2) := by decide +kernel
theorem dX2_edgesBetween_79 : decode cX2_edgesBetween 79 = .ok (.ifCond .eq 6, 3) := by decide +kernel
theorem dX2_edgesBetween_82 : decode cX2_edgesBetween 82 = .ok (.iinc 3 1, 3) := by decide +kernel
theorem dX2_edgesBetween_85 : decode cX2_edgesBetween 85 = .ok (.iinc 4 1, 3) := by decide +kernel
theorem dX2_edgesBetween_88 : decode cX2_edgesBetween 88 = .ok (.goto (-83), 3) := by decide +kernel
theorem dX2_edgesBetween_91 : decode cX2_edgesBetween 91 = .ok (.iload_n 3, 1) := by decide +kernel
theorem dX2_edgesBetween_92 : decode cX2_edgesBetween 92 = .ok (.ireturn, 1) := by decide +kernel
end
section
theorem dX3_init_0 : decode cX3_init 0 = .ok (.aload_n 0, 1) := by decide +kernel
theorem dX3_init_1 : decode cX3_init 1 = .ok (.invokespecial 3, 3) := by decide +kernel
theorem dX3_init_4 : decode cX3_init 4 = .ok (.aload_n 0, 1) := by decide +kernel
theorem dX3_init_5 : decode cX3_init 5 = .ok (.bipush 6, 2) := by decide +kernel
theorem dX3_init_7 : decode cX3_init 7 = .ok (.newarray .int, 2) := by decide +kernel
theorem dX3_init_9 : decode cX3_init 9 = .ok (.putfield 9, 3) := by decide +kernel
theorem dX3_init_12 : decode cX3_init 12 = .ok (.aload_n 0, 1) := by decide +kernel
theorem dX3_init_13 : decode cX3_init 13 = .ok (.bipush 6, 2) := by decide +kernel
theorem dX3_init_15 : decode cX3_init 15 = .ok (.newarray .int, 2) := by decide +kernel
theorem dX3_init_17 : decode cX3_init 17 = .ok (.putfield 15, 3) := by decide +kernel
theorem dX3_init_20 : decode cX3_init 20 = .ok (.return_, 1) := by decide +kernel
theorem dX3_countGroups_0 : decode cX3_countGroups 0 = .ok (.aload_n 0, 1) := by decide +kernel
theorem dX3_countGroups_1 : decode cX3_countGroups 1 = .ok (.invokevirtual 18, 3) := by decide +kernel
theorem dX3_countGroups_4 : decode cX3_countGroups 4 = .ok (.aload_n 1, 1) := by decide +kernel
theorem dX3_countGroups_5 : decode cX3_countGroups 5 = .ok (.getfield 21, 3) := by decide +kernel
theorem dX3_countGroups_8 : decode cX3_countGroups 8 = .ok (.istore_n 2, 1) := by decide +kernel
theorem dX3_countGroups_9 : decode cX3_countGroups 9 = .ok (.iconst 0, 1) := by decide +kernel
theorem dX3_countGroups_10 : decode cX3_countGroups 10 = .ok (.istore_n 3, 1) := by decide +kernel
theorem dX3_countGroups_11 : decode cX3_countGroups 11 = .ok (.iload_n 3, 1) := by decide +kernel
theorem dX3_countGroups_12 : decode cX3_countGroups 12 = .ok (.aload_n 1, 1) := by decide +kernel
theorem dX3_countGroups_13 : decode cX3_countGroups 13 = .ok (.getfield 27, 3) := by decide +kernel
theorem dX3_countGroups_16 : decode cX3_countGroups 16 = .ok (.if_icmp .ge 21, 3) := by decide +kernel
theorem dX3_countGroups_19 : decode cX3_countGroups 19 = .ok (.aload_n 0, 1) := by decide +kernel
theorem dX3_countGroups_20 : decode cX3_countGroups 20 = .ok (.aload_n 1, 1) := by decide +kernel
theorem dX3_countGroups_21 : decode cX3_countGroups 21 = .ok (.iload_n 3, 1) := by decide +kernel
theorem dX3_countGroups_22 : decode cX3_countGroups 22 = .ok (.invokevirtual 30, 3) := by decide +kernel
theorem dX3_countGroups_25 : decode cX3_countGroups 25 = .ok (.ifCond .eq 6, 3) := by decide +kernel
theorem dX3_countGroups_28 : decode cX3_countGroups 28 = .ok (.iinc 2 (-1), 3) := by decide +kernel
theorem dX3_countGroups_31 : decode cX3_countGroups 31 = .ok (.iinc 3 1, 3) := by decide +kernel
theorem dX3_countGroups_34 : decode cX3_countGroups 34 = .ok (.goto (-23), 3) := by decide +kernel
theorem dX3_countGroups_37 : decode cX3_countGroups 37 = .ok (.iload_n 2, 1) := by decide +kernel
theorem dX3_countGroups_38 : decode cX3_countGroups 38 = .ok (.ireturn, 1) := by decide +kernel
theorem dX3_canDivide_0 : decode cX3_canDivide 0 = .ok (.aload_n 0, 1) := by decide +kernel
theorem dX3_canDivide_1 : decode cX3_canDivide 1 = .ok (.invokevirtual 18, 3) := by decide +kernel
theorem dX3_canDivide_4 : decode cX3_canDivide 4 = .ok (.iconst 0, 1) := by decide +kernel
theorem dX3_canDivide_5 : decode cX3_canDivide 5 = .ok (.istore_n 2, 1) := by decide +kernel
theorem dX3_canDivide_6 : decode cX3_canDivide 6 = .ok (.iload_n 2, 1) := by decide +kernel
theorem dX3_canDivide_7 : decode cX3_canDivide 7 = .ok (.aload_n 1, 1) := by decide +kernel
theorem dX3_canDivide_8 : decode cX3_canDivide 8 = .ok (.getfield 27, 3) := by decide +kernel
theorem dX3_canDivide_11 : decode cX3_canDivide 11 = .ok (.if_icmp .ge 29, 3) := by decide +kernel
theorem dX3_canDivide_14 : decode cX3_canDivide 14 = .ok (.aload_n 0, 1) := by decide +kernel
theorem dX3_canDivide_15 : decode cX3_canDivide 15 = .ok (.aload_n 1, 1) := by decide +kernel
theorem dX3_canDivide_16 : decode cX3_canDivide 16 = .ok (.iload_n 2, 1) := by decide +kernel
theorem dX3_canDivide_17 : decode cX3_canDivide 17 = .ok (.invokevirtual 30, 3) := by decide +kernel
theorem dX3_canDivide_20 : decode cX3_canDivide 20 = .ok (.ifCond .ne 14, 3) := by decide +kernel
theorem dX3_canDivide_23 : decode cX3_canDivide 23 = .ok (.aload_n 0, 1) := by decide +kernel
theorem dX3_canDivide_24 : decode cX3_canDivide 24 = .ok (.aload_n 1, 1) := by decide +kernel
theorem dX3_canDivide_25 : decode cX3_canDivide 25 = .ok (.iload_n 2, 1) := by decide +kernel
theorem dX3_canDivide_26 : decode cX3_canDivide 26 = .ok (.invokevirtual 34, 3) := by decide +kernel
theorem dX3_canDivide_29 : decode cX3_canDivide 29 = .ok (.ifCond .eq 5, 3) := by decide +kernel
theorem dX3_canDivide_32 : decode cX3_canDivide 32 = .ok (.iconst 0, 1) := by decide +kernel
theorem dX3_canDivide_33 : decode cX3_canDivide 33 = .ok (.ireturn, 1) := by decide +kernel
theorem dX3_canDivide_34 : decode cX3_canDivide 34 = .ok (.iinc 2 1, 3) := by decide +kernel
theorem dX3_canDivide_37 : decode cX3_canDivide 37 = .ok (.goto (-31), 3) := by decide +kernel
theorem dX3_canDivide_40 : decode cX3_canDivide 40 = .ok (.iconst 1, 1) := by decide +kernel
theorem dX3_canDivide_41 : decode cX3_canDivide 41 = .ok (.ireturn, 1) := by decide +kernel
theorem dX3_countTrees_0 : decode cX3_countTrees 0 = .ok (.iconst 0, 1) := by decide +kernel
theorem dX3_countTrees_1 : decode cX3_countTrees 1 = .ok (.istore_n 2, 1) := by decide +kernel
theorem dX3_countTrees_2 : decode cX3_countTrees 2 = .ok (.iconst 0, 1) := by decide +kernel
theorem dX3_countTrees_3 : decode cX3_countTrees 3 = .ok (.istore_n 3, 1) := by decide +kernel
theorem dX3_countTrees_4 : decode cX3_countTrees 4 = .ok (.iload_n 3, 1) := by decide +kernel
theorem dX3_countTrees_5 : decode cX3_countTrees 5 = .ok (.iconst 1, 1) := by decide +kernel
theorem dX3_countTrees_6 : decode cX3_countTrees 6 = .ok (.aload_n 1, 1) := by decide +kernel
theorem dX3_countTrees_7 : decode cX3_countTrees 7 = .ok (.getfield 27, 3) := by decide +kernel
theorem dX3_countTrees_10 : decode cX3_countTrees 10 = .ok (.ishl, 1) := by decide +kernel
theorem dX3_countTrees_11 : decode cX3_countTrees 11 = .ok (.if_icmp .ge 34, 3) := by decide +kernel
theorem dX3_countTrees_14 : decode cX3_countTrees 14 = .ok (.iload_n 3, 1) := by decide +kernel
theorem dX3_countTrees_15 : decode cX3_countTrees 15 = .ok (.invokestatic 38, 3) := by decide +kernel
theorem dX3_countTrees_18 : decode cX3_countTrees 18 = .ok (.aload_n 1, 1) := by decide +kernel
theorem dX3_countTrees_19 : decode cX3_countTrees 19 = .ok (.getfield 21, 3) := by decide +kernel
theorem dX3_countTrees_22 : decode cX3_countTrees 22 = .ok (.iconst 1, 1) := by decide +kernel
theorem dX3_countTrees_23 : decode cX3_countTrees 23 = .ok (.isub, 1) := by decide +kernel
theorem dX3_countTrees_24 : decode cX3_countTrees 24 = .ok (.if_icmp .ne 15, 3) := by decide +kernel
theorem dX3_countTrees_27 : decode cX3_countTrees 27 = .ok (.aload_n 0, 1) := by decide +kernel
theorem dX3_countTrees_28 : decode cX3_countTrees 28 = .ok (.aload_n 1, 1) := by decide +kernel
theorem dX3_countTrees_29 : decode cX3_countTrees 29 = .ok (.iload_n 3, 1) := by decide +kernel
theorem dX3_countTrees_30 : decode cX3_countTrees 30 = .ok (.invokevirtual 44, 3) := by decide +kernel
theorem dX3_countTrees_33 : decode cX3_countTrees 33 = .ok (.ifCond .eq 6, 3) := by decide +kernel
theorem dX3_countTrees_36 : decode cX3_countTrees 36 = .ok (.iinc 2 1, 3) := by decide +kernel
theorem dX3_countTrees_39 : decode cX3_countTrees 39 = .ok (.iinc 3 1, 3) := by decide +kernel
theorem dX3_countTrees_42 : decode cX3_countTrees 42 = .ok (.goto (-38), 3) := by decide +kernel
theorem dX3_countTrees_45 : decode cX3_countTrees 45 = .ok (.iload_n 2, 1) := by decide +kernel
theorem dX3_countTrees_46 : decode cX3_countTrees 46 = .ok (.ireturn, 1) := by decide +kernel
theorem dX3_isForest_0 : decode cX3_isForest 0 = .ok (.aload_n 0, 1) := by decide +kernel
theorem dX3_isForest_1 : decode cX3_isForest 1 = .ok (.invokevirtual 18, 3) := by decide +kernel
theorem dX3_isForest_4 : decode cX3_isForest 4 = .ok (.iconst 0, 1) := by decide +kernel
theorem dX3_isForest_5 : decode cX3_isForest 5 = .ok (.istore_n 3, 1) := by decide +kernel
theorem dX3_isForest_6 : decode cX3_isForest 6 = .ok (.iload_n 3, 1) := by decide +kernel
theorem dX3_isForest_7 : decode cX3_isForest 7 = .ok (.aload_n 1, 1) := by decide +kernel
theorem dX3_isForest_8 : decode cX3_isForest 8 = .ok (.getfield 27, 3) := by decide +kernel
theorem dX3_isForest_11 : decode cX3_isForest 11 = .ok (.if_icmp .ge 41, 3) := by decide +kernel
theorem dX3_isForest_14 : decode cX3_isForest 14 = .ok (.iload_n 2, 1) := by decide +kernel
theorem dX3_isForest_15 : decode cX3_isForest 15 = .ok (.iload_n 3, 1) := by decide +kernel
theorem dX3_isForest_16 : decode cX3_isForest 16 = .ok (.ishr, 1) := by decide +kernel
theorem dX3_isForest_17 : decode cX3_isForest 17 = .ok (.iconst 1, 1) := by decide +kernel
theorem dX3_isForest_18 : decode cX3_isForest 18 = .ok (.iand, 1) := by decide +kernel
theorem dX3_isForest_19 : decode cX3_isForest 19 = .ok (.iconst 1, 1) := by decide +kernel
theorem dX3_isForest_20 : decode cX3_isForest 20 = .ok (.if_icmp .ne 7, 3) := by decide +kernel
theorem dX3_isForest_23 : decode cX3_isForest 23 = .ok (.iconst 1, 1) := by decide +kernel
theorem dX3_isForest_24 : decode cX3_isForest 24 = .ok (.goto 4, 3) := by decide +kernel
theorem dX3_isForest_27 : decode cX3_isForest 27 = .ok (.iconst 0, 1) := by decide +kernel
theorem dX3_isForest_28 : decode cX3_isForest 28 = .ok (.istore 4, 2) := by decide +kernel
theorem dX3_isForest_30 : decode cX3_isForest 30 = .ok (.iload 4, 2) := by decide +kernel
theorem dX3_isForest_32 : decode cX3_isForest 32 = .ok (.ifCond .eq 14, 3) := by decide +kernel
theorem dX3_isForest_35 : decode cX3_isForest 35 = .ok (.aload_n 0, 1) := by decide +kernel
theorem dX3_isForest_36 : decode cX3_isForest 36 = .ok (.aload_n 1, 1) := by decide +kernel
theorem dX3_isForest_37 : decode cX3_isForest 37 = .ok (.iload_n 3, 1) := by decide +kernel
theorem dX3_isForest_38 : decode cX3_isForest 38 = .ok (.invokevirtual 30, 3) := by decide +kernel
theorem dX3_isForest_41 : decode cX3_isForest 41 = .ok (.ifCond .ne 5, 3) := by decide +kernel
theorem dX3_isForest_44 : decode cX3_isForest 44 = .ok (.iconst 0, 1) := by decide +kernel
theorem dX3_isForest_45 : decode cX3_isForest 45 = .ok (.ireturn, 1) := by decide +kernel
theorem dX3_isForest_46 : decode cX3_isForest 46 = .ok (.iinc 3 1, 3) := by decide +kernel
theorem dX3_isForest_49 : decode cX3_isForest 49 = .ok (.goto (-43), 3) := by decide +kernel
theorem dX3_isForest_52 : decode cX3_isForest 52 = .ok (.iconst 1, 1) := by decide +kernel
theorem dX3_isForest_53 : decode cX3_isForest 53 = .ok (.ireturn, 1) := by decide +kernel
theorem dX3_separate_0 : decode cX3_separate 0 = .ok (.iconst 0, 1) := by decide +kernel
theorem dX3_separate_1 : decode cX3_separate 1 = .ok (.istore_n 1, 1) := by decide +kernel
theorem dX3_separate_2 : decode cX3_separate 2 = .ok (.iload_n 1, 1) := by decide +kernel
theorem dX3_separate_3 : decode cX3_separate 3 = .ok (.bipush 6, 2) := by decide +kernel
theorem dX3_separate_5 : decode cX3_separate 5 = .ok (.if_icmp .ge 23, 3) := by decide +kernel
theorem dX3_separate_8 : decode cX3_separate 8 = .ok (.aload_n 0, 1) := by decide +kernel
theorem dX3_separate_9 : decode cX3_separate 9 = .ok (.getfield 9, 3) := by decide +kernel
theorem dX3_separate_12 : decode cX3_separate 12 = .ok (.iload_n 1, 1) := by decide +kernel
theorem dX3_separate_13 : decode cX3_separate 13 = .ok (.iload_n 1, 1) := by decide +kernel
theorem dX3_separate_14 : decode cX3_separate 14 = .ok (.iastore, 1) := by decide +kernel
theorem dX3_separate_15 : decode cX3_separate 15 = .ok (.aload_n 0, 1) := by decide +kernel
theorem dX3_separate_16 : decode cX3_separate 16 = .ok (.getfield 15, 3) := by decide +kernel
theorem dX3_separate_19 : decode cX3_separate 19 = .ok (.iload_n 1, 1) := by decide +kernel
theorem dX3_separate_20 : decode cX3_separate 20 = .ok (.iconst 0, 1) := by decide +kernel
theorem dX3_separate_21 : decode cX3_separate 21 = .ok (.iastore, 1) := by decide +kernel
theorem dX3_separate_22 : decode cX3_separate 22 = .ok (.iinc 1 1, 3) := by decide +kernel
theorem dX3_separate_25 : decode cX3_separate 25 = .ok (.goto (-23), 3) := by decide +kernel
theorem dX3_separate_28 : decode cX3_separate 28 = .ok (.return_, 1) := by decide +kernel
theorem dX3_unite_0 : decode cX3_unite 0 = .ok (.aload_n 0, 1) := by decide +kernel
theorem dX3_unite_1 : decode cX3_unite 1 = .ok (.getfield 9, 3) := by decide +kernel
theorem dX3_unite_4 : decode cX3_unite 4 = .ok (.aload_n 1, 1) := by decide +kernel
theorem dX3_unite_5 : decode cX3_unite 5 = .ok (.getfield 47, 3) := by decide +kernel
theorem dX3_unite_8 : decode cX3_unite 8 = .ok (.iload_n 2, 1) := by decide +kernel
theorem dX3_unite_9 : decode cX3_unite 9 = .ok (.iaload, 1) := by decide +kernel
theorem dX3_unite_10 : decode cX3_unite 10 = .ok (.iaload, 1) := by decide +kernel
theorem dX3_unite_11 : decode cX3_unite 11 = .ok (.istore_n 3, 1) := by decide +kernel
theorem dX3_unite_12 : decode cX3_unite 12 = .ok (.aload_n 0, 1) := by decide +kernel
theorem dX3_unite_13 : decode cX3_unite 13 = .ok (.getfield 9, 3) := by decide +kernel
theorem dX3_unite_16 : decode cX3_unite 16 = .ok (.aload_n 1, 1) := by decide +kernel
theorem dX3_unite_17 : decode cX3_unite 17 = .ok (.getfield 50, 3) := by decide +kernel
theorem dX3_unite_20 : decode cX3_unite 20 = .ok (.iload_n 2, 1) := by decide +kernel
theorem dX3_unite_21 : decode cX3_unite 21 = .ok (.iaload, 1) := by decide +kernel
theorem dX3_unite_22 : decode cX3_unite 22 = .ok (.iaload, 1) := by decide +kernel
theorem dX3_unite_23 : decode cX3_unite 23 = .ok (.istore 4, 2) := by decide +kernel
theorem dX3_unite_25 : decode cX3_unite 25 = .ok (.iload_n 3, 1) := by decide +kernel
theorem dX3_unite_26 : decode cX3_unite 26 = .ok (.iload 4, 2) := by decide +kernel
theorem dX3_unite_28 : decode cX3_unite 28 = .ok (.if_icmp .ne 5, 3) := by decide +kernel
theorem dX3_unite_31 : decode cX3_unite 31 = .ok (.iconst 0, 1) := by decide +kernel
theorem dX3_unite_32 : decode cX3_unite 32 = .ok (.ireturn, 1) := by decide +kernel
theorem dX3_unite_33 : decode cX3_unite 33 = .ok (.aload_n 0, 1) := by decide +kernel
theorem dX3_unite_34 : decode cX3_unite 34 = .ok (.aload_n 1, 1) := by decide +kernel
theorem dX3_unite_35 : decode cX3_unite 35 = .ok (.iload_n 2, 1) := by decide +kernel
theorem dX3_unite_36 : decode cX3_unite 36 = .ok (.invokevirtual 34, 3) := by decide +kernel
theorem dX3_unite_39 : decode cX3_unite 39 = .ok (.istore 5, 2) := by decide +kernel
theorem dX3_unite_41 : decode cX3_unite 41 = .ok (.iconst 0, 1) := by decide +kernel
theorem dX3_unite_42 : decode cX3_unite 42 = .ok (.istore 6, 2) := by decide +kernel
theorem dX3_unite_44 : decode cX3_unite 44 = .ok (.iload 6, 2) := by decide +kernel
theorem dX3_unite_46 : decode cX3_unite 46 = .ok (.bipush 6, 2) := by decide +kernel
theorem dX3_unite_48 : decode cX3_unite 48 = .ok (.if_icmp .ge 41, 3) := by decide +kernel
theorem dX3_unite_51 : decode cX3_unite 51 = .ok (.aload_n 0, 1) := by decide +kernel
theorem dX3_unite_52 : decode cX3_unite 52 = .ok (.getfield 9, 3) := by decide +kernel
theorem dX3_unite_55 : decode cX3_unite 55 = .ok (.iload 6, 2) := by decide +kernel
theorem dX3_unite_57 : decode cX3_unite 57 = .ok (.iaload, 1) := by decide +kernel
theorem dX3_unite_58 : decode cX3_unite 58 = .ok (.iload 4, 2) := by decide +kernel
theorem dX3_unite_60 : decode cX3_unite 60 = .ok (.if_icmp .ne 23, 3) := by decide +kernel
theorem dX3_unite_63 : decode cX3_unite 63 = .ok (.aload_n 0, 1) := by decide +kernel
theorem dX3_unite_64 : decode cX3_unite 64 = .ok (.getfield 9, 3) := by decide +kernel
theorem dX3_unite_67 : decode cX3_unite 67 = .ok (.iload 6, 2) := by decide +kernel
theorem dX3_unite_69 : decode cX3_unite 69 = .ok (.iload_n 3, 1) := by decide +kernel
theorem dX3_unite_70 : decode cX3_unite 70 = .ok (.iastore, 1) := by decide +kernel
theorem dX3_unite_71 : decode cX3_unite 71 = .ok (.aload_n 0, 1) := by decide +kernel
theorem dX3_unite_72 : decode cX3_unite 72 = .ok (.getfield 15, 3) := by decide +kernel
theorem dX3_unite_75 : decode cX3_unite 75 = .ok (.iload 6, 2) := by decide +kernel
theorem dX3_unite_77 : decode cX3_unite 77 = .ok (.dup2, 1) := by decide +kernel
theorem dX3_unite_78 : decode cX3_unite 78 = .ok (.iaload, 1) := by decide +kernel
theorem dX3_unite_79 : decode cX3_unite 79 = .ok (.iload 5, 2) := by decide +kernel
theorem dX3_unite_81 : decode cX3_unite 81 = .ok (.ixor, 1) := by decide +kernel
theorem dX3_unite_82 : decode cX3_unite 82 = .ok (.iastore, 1) := by decide +kernel
theorem dX3_unite_83 : decode cX3_unite 83 = .ok (.iinc 6 1, 3) := by decide +kernel
theorem dX3_unite_86 : decode cX3_unite 86 = .ok (.goto (-42), 3) := by decide +kernel
theorem dX3_unite_89 : decode cX3_unite 89 = .ok (.iconst 1, 1) := by decide +kernel
theorem dX3_unite_90 : decode cX3_unite 90 = .ok (.ireturn, 1) := by decide +kernel
theorem dX3_turnFor_0 : decode cX3_turnFor 0 = .ok (.aload_n 1, 1) := by decide +kernel
theorem dX3_turnFor_1 : decode cX3_turnFor 1 = .ok (.getfield 53, 3) := by decide +kernel
theorem dX3_turnFor_4 : decode cX3_turnFor 4 = .ok (.iload_n 2, 1) := by decide +kernel
theorem dX3_turnFor_5 : decode cX3_turnFor 5 = .ok (.iaload, 1) := by decide +kernel
theorem dX3_turnFor_6 : decode cX3_turnFor 6 = .ok (.iconst (-1), 1) := by decide +kernel
theorem dX3_turnFor_7 : decode cX3_turnFor 7 = .ok (.if_icmp .ne 7, 3) := by decide +kernel
theorem dX3_turnFor_10 : decode cX3_turnFor 10 = .ok (.iconst 1, 1) := by decide +kernel
theorem dX3_turnFor_11 : decode cX3_turnFor 11 = .ok (.goto 4, 3) := by decide +kernel
theorem dX3_turnFor_14 : decode cX3_turnFor 14 = .ok (.iconst 0, 1) := by decide +kernel
theorem dX3_turnFor_15 : decode cX3_turnFor 15 = .ok (.istore_n 3, 1) := by decide +kernel
theorem dX3_turnFor_16 : decode cX3_turnFor 16 = .ok (.aload_n 0, 1) := by decide +kernel
theorem dX3_turnFor_17 : decode cX3_turnFor 17 = .ok (.getfield 15, 3) := by decide +kernel
theorem dX3_turnFor_20 : decode cX3_turnFor 20 = .ok (.aload_n 1, 1) := by decide +kernel
theorem dX3_turnFor_21 : decode cX3_turnFor 21 = .ok (.getfield 47, 3) := by decide +kernel
theorem dX3_turnFor_24 : decode cX3_turnFor 24 = .ok (.iload_n 2, 1) := by decide +kernel
theorem dX3_turnFor_25 : decode cX3_turnFor 25 = .ok (.iaload, 1) := by decide +kernel
theorem dX3_turnFor_26 : decode cX3_turnFor 26 = .ok (.iaload, 1) := by decide +kernel
theorem dX3_turnFor_27 : decode cX3_turnFor 27 = .ok (.aload_n 0, 1) := by decide +kernel
theorem dX3_turnFor_28 : decode cX3_turnFor 28 = .ok (.getfield 15, 3) := by decide +kernel
theorem dX3_turnFor_31 : decode cX3_turnFor 31 = .ok (.aload_n 1, 1) := by decide +kernel
theorem dX3_turnFor_32 : decode cX3_turnFor 32 = .ok (.getfield 50, 3) := by decide +kernel
theorem dX3_turnFor_35 : decode cX3_turnFor 35 = .ok (.iload_n 2, 1) := by decide +kernel
theorem dX3_turnFor_36 : decode cX3_turnFor 36 = .ok (.iaload, 1) := by decide +kernel
theorem dX3_turnFor_37 : decode cX3_turnFor 37 = .ok (.iaload, 1) := by decide +kernel
theorem dX3_turnFor_38 : decode cX3_turnFor 38 = .ok (.ixor, 1) := by decide +kernel
theorem dX3_turnFor_39 : decode cX3_turnFor 39 = .ok (.iload_n 3, 1) := by decide +kernel
theorem dX3_turnFor_40 : decode cX3_turnFor 40 = .ok (.ixor, 1) := by decide +kernel
theorem dX3_turnFor_41 : decode cX3_turnFor 41 = .ok (.ireturn, 1) := by decide +kernel
end
section
theorem dX4_init_0 : decode cX4_init 0 = .ok (.aload_n 0, 1) := by decide +kernel
theorem dX4_init_1 : decode cX4_init 1 = .ok (.invokespecial 3, 3) := by decide +kernel
theorem dX4_init_4 : decode cX4_init 4 = .ok (.aload_n 0, 1) := by decide +kernel
theorem dX4_init_5 : decode cX4_init 5 = .ok (.iconst 0, 1) := by decide +kernel
theorem dX4_init_6 : decode cX4_init 6 = .ok (.putfield 9, 3) := by decide +kernel
theorem dX4_init_9 : decode cX4_init 9 = .ok (.aload_n 0, 1) := by decide +kernel
theorem dX4_init_10 : decode cX4_init 10 = .ok (.bipush 8, 2) := by decide +kernel
theorem dX4_init_12 : decode cX4_init 12 = .ok (.anewarray 15, 3) := by decide +kernel
theorem dX4_init_15 : decode cX4_init 15 = .ok (.putfield 17, 3) := by decide +kernel
theorem dX4_init_18 : decode cX4_init 18 = .ok (.iconst 0, 1) := by decide +kernel
theorem dX4_init_19 : decode cX4_init 19 = .ok (.istore_n 1, 1) := by decide +kernel
theorem dX4_init_20 : decode cX4_init 20 = .ok (.iload_n 1, 1) := by decide +kernel
theorem dX4_init_21 : decode cX4_init 21 = .ok (.bipush 8, 2) := by decide +kernel
theorem dX4_init_23 : decode cX4_init 23 = .ok (.if_icmp .ge 22, 3) := by decide +kernel
theorem dX4_init_26 : decode cX4_init 26 = .ok (.aload_n 0, 1) := by decide +kernel
theorem dX4_init_27 : decode cX4_init 27 = .ok (.getfield 17, 3) := by decide +kernel
theorem dX4_init_30 : decode cX4_init 30 = .ok (.iload_n 1, 1) := by decide +kernel
theorem dX4_init_31 : decode cX4_init 31 = .ok (.new 15, 3) := by decide +kernel
theorem dX4_init_34 : decode cX4_init 34 = .ok (.dup, 1) := by decide +kernel
theorem dX4_init_35 : decode cX4_init 35 = .ok (.invokespecial 21, 3) := by decide +kernel
theorem dX4_init_38 : decode cX4_init 38 = .ok (.aastore, 1) := by decide +kernel
theorem dX4_init_39 : decode cX4_init 39 = .ok (.iinc 1 1, 3) := by decide +kernel
theorem dX4_init_42 : decode cX4_init 42 = .ok (.goto (-22), 3) := by decide +kernel
theorem dX4_init_45 : decode cX4_init 45 = .ok (.return_, 1) := by decide +kernel
theorem dX4_save_0 : decode cX4_save 0 = .ok (.aload_n 0, 1) := by decide +kernel
theorem dX4_save_1 : decode cX4_save 1 = .ok (.getfield 9, 3) := by decide +kernel
theorem dX4_save_4 : decode cX4_save 4 = .ok (.bipush 8, 2) := by decide +kernel
theorem dX4_save_6 : decode cX4_save 6 = .ok (.if_icmp .lt 7, 3) := by decide +kernel
theorem dX4_save_9 : decode cX4_save 9 = .ok (.aload_n 0, 1) := by decide +kernel
theorem dX4_save_10 : decode cX4_save 10 = .ok (.invokevirtual 22, 3) := by decide +kernel
theorem dX4_save_13 : decode cX4_save 13 = .ok (.aload_n 0, 1) := by decide +kernel
theorem dX4_save_14 : decode cX4_save 14 = .ok (.getfield 17, 3) := by decide +kernel
theorem dX4_save_17 : decode cX4_save 17 = .ok (.aload_n 0, 1) := by decide +kernel
theorem dX4_save_18 : decode cX4_save 18 = .ok (.getfield 9, 3) := by decide +kernel
theorem dX4_save_21 : decode cX4_save 21 = .ok (.aaload, 1) := by decide +kernel
theorem dX4_save_22 : decode cX4_save 22 = .ok (.aload_n 1, 1) := by decide +kernel
theorem dX4_save_23 : decode cX4_save 23 = .ok (.invokevirtual 25, 3) := by decide +kernel
theorem dX4_save_26 : decode cX4_save 26 = .ok (.aload_n 0, 1) := by decide +kernel
theorem dX4_save_27 : decode cX4_save 27 = .ok (.dup, 1) := by decide +kernel
theorem dX4_save_28 : decode cX4_save 28 = .ok (.getfield 9, 3) := by decide +kernel
theorem dX4_save_31 : decode cX4_save 31 = .ok (.iconst 1, 1) := by decide +kernel
theorem dX4_save_32 : decode cX4_save 32 = .ok (.iadd, 1) := by decide +kernel
theorem dX4_save_33 : decode cX4_save 33 = .ok (.putfield 9, 3) := by decide +kernel
theorem dX4_save_36 : decode cX4_save 36 = .ok (.return_, 1) := by decide +kernel
theorem dX4_restore_0 : decode cX4_restore 0 = .ok (.aload_n 0, 1) := by decide +kernel
theorem dX4_restore_1 : decode cX4_restore 1 = .ok (.getfield 9, 3) := by decide +kernel
theorem dX4_restore_4 : decode cX4_restore 4 = .ok (.ifCond .le 26, 3) := by decide +kernel
theorem dX4_restore_7 : decode cX4_restore 7 = .ok (.aload_n 0, 1) := by decide +kernel
theorem dX4_restore_8 : decode cX4_restore 8 = .ok (.dup, 1) := by decide +kernel
theorem dX4_restore_9 : decode cX4_restore 9 = .ok (.getfield 9, 3) := by decide +kernel
theorem dX4_restore_12 : decode cX4_restore 12 = .ok (.iconst 1, 1) := by decide +kernel
theorem dX4_restore_13 : decode cX4_restore 13 = .ok (.isub, 1) := by decide +kernel
theorem dX4_restore_14 : decode cX4_restore 14 = .ok (.putfield 9, 3) := by decide +kernel
theorem dX4_restore_17 : decode cX4_restore 17 = .ok (.aload_n 1, 1) := by decide +kernel
theorem dX4_restore_18 : decode cX4_restore 18 = .ok (.aload_n 0, 1) := by decide +kernel
theorem dX4_restore_19 : decode cX4_restore 19 = .ok (.getfield 17, 3) := by decide +kernel
theorem dX4_restore_22 : decode cX4_restore 22 = .ok (.aload_n 0, 1) := by decide +kernel
theorem dX4_restore_23 : decode cX4_restore 23 = .ok (.getfield 9, 3) := by decide +kernel
theorem dX4_restore_26 : decode cX4_restore 26 = .ok (.aaload, 1) := by decide +kernel
theorem dX4_restore_27 : decode cX4_restore 27 = .ok (.invokevirtual 25, 3) := by decide +kernel
theorem dX4_restore_30 : decode cX4_restore 30 = .ok (.return_, 1) := by decide +kernel
theorem dX4_discardOldest_0 : decode cX4_discardOldest 0 = .ok (.aload_n 0, 1) := by decide +kernel
theorem dX4_discardOldest_1 : decode cX4_discardOldest 1 = .ok (.getfield 17, 3) := by decide +kernel
theorem dX4_discardOldest_4 : decode cX4_discardOldest 4 = .ok (.iconst 0, 1) := by decide +kernel
theorem dX4_discardOldest_5 : decode cX4_discardOldest 5 = .ok (.aaload, 1) := by decide +kernel
theorem dX4_discardOldest_6 : decode cX4_discardOldest 6 = .ok (.astore_n 1, 1) := by decide +kernel
theorem dX4_discardOldest_7 : decode cX4_discardOldest 7 = .ok (.iconst 1, 1) := by decide +kernel
theorem dX4_discardOldest_8 : decode cX4_discardOldest 8 = .ok (.istore_n 2, 1) := by decide +kernel
theorem dX4_discardOldest_9 : decode cX4_discardOldest 9 = .ok (.iload_n 2, 1) := by decide +kernel
theorem dX4_discardOldest_10 : decode cX4_discardOldest 10 = .ok (.bipush 8, 2) := by decide +kernel
theorem dX4_discardOldest_12 : decode cX4_discardOldest 12 = .ok (.if_icmp .ge 23, 3) := by decide +kernel
theorem dX4_discardOldest_15 : decode cX4_discardOldest 15 = .ok (.aload_n 0, 1) := by decide +kernel
theorem dX4_discardOldest_16 : decode cX4_discardOldest 16 = .ok (.getfield 17, 3) := by decide +kernel
theorem dX4_discardOldest_19 : decode cX4_discardOldest 19 = .ok (.iload_n 2, 1) := by decide +kernel
theorem dX4_discardOldest_20 : decode cX4_discardOldest 20 = .ok (.iconst 1, 1) := by decide +kernel
theorem dX4_discardOldest_21 : decode cX4_discardOldest 21 = .ok (.isub, 1) := by decide +kernel
theorem dX4_discardOldest_22 : decode cX4_discardOldest 22 = .ok (.aload_n 0, 1) := by decide +kernel
theorem dX4_discardOldest_23 : decode cX4_discardOldest 23 = .ok (.getfield 17, 3) := by decide +kernel
theorem dX4_discardOldest_26 : decode cX4_discardOldest 26 = .ok (.iload_n 2, 1) := by decide +kernel
theorem dX4_discardOldest_27 : decode cX4_discardOldest 27 = .ok (.aaload, 1) := by decide +kernel
theorem dX4_discardOldest_28 : decode cX4_discardOldest 28 = .ok (.aastore, 1) := by decide +kernel
theorem dX4_discardOldest_29 : decode cX4_discardOldest 29 = .ok (.iinc 2 1, 3) := by decide +kernel
theorem dX4_discardOldest_32 : decode cX4_discardOldest 32 = .ok (.goto (-23), 3) := by decide +kernel
theorem dX4_discardOldest_35 : decode cX4_discardOldest 35 = .ok (.aload_n 0, 1) := by decide +kernel
theorem dX4_discardOldest_36 : decode cX4_discardOldest 36 = .ok (.getfield 17, 3) := by decide +kernel
theorem dX4_discardOldest_39 : decode cX4_discardOldest 39 = .ok (.bipush 7, 2) := by decide +kernel
theorem dX4_discardOldest_41 : decode cX4_discardOldest 41 = .ok (.aload_n 1, 1) := by decide +kernel
theorem dX4_discardOldest_42 : decode cX4_discardOldest 42 = .ok (.aastore, 1) := by decide +kernel
theorem dX4_discardOldest_43 : decode cX4_discardOldest 43 = .ok (.aload_n 0, 1) := by decide +kernel
theorem dX4_discardOldest_44 : decode cX4_discardOldest 44 = .ok (.bipush 7, 2) := by decide +kernel
theorem dX4_discardOldest_46 : decode cX4_discardOldest 46 = .ok (.putfield 9, 3) := by decide +kernel
theorem dX4_discardOldest_49 : decode cX4_discardOldest 49 = .ok (.return_, 1) := by decide +kernel
end
section
theorem dX5_init_0 : decode cX5_init 0 = .ok (.aload_n 0, 1) := by decide +kernel
theorem dX5_init_1 : decode cX5_init 1 = .ok (.invokespecial 3, 3) := by decide +kernel
theorem dX5_init_4 : decode cX5_init 4 = .ok (.aload_n 0, 1) := by decide +kernel
theorem dX5_init_5 : decode cX5_init 5 = .ok (.iconst 5, 1) := by decide +kernel
theorem dX5_init_6 : decode cX5_init 6 = .ok (.newarray .int, 2) := by decide +kernel
theorem dX5_init_8 : decode cX5_init 8 = .ok (.putfield 9, 3) := by decide +kernel
theorem dX5_init_11 : decode cX5_init 11 = .ok (.return_, 1) := by decide +kernel
theorem dX5_find_0 : decode cX5_find 0 = .ok (.aload_n 0, 1) := by decide +kernel
theorem dX5_find_1 : decode cX5_find 1 = .ok (.iload_n 3, 1) := by decide +kernel
theorem dX5_find_2 : decode cX5_find 2 = .ok (.putfield 15, 3) := by decide +kernel
theorem dX5_find_5 : decode cX5_find 5 = .ok (.aload_n 0, 1) := by decide +kernel
theorem dX5_find_6 : decode cX5_find 6 = .ok (.aload_n 1, 1) := by decide +kernel
theorem dX5_find_7 : decode cX5_find 7 = .ok (.iload_n 2, 1) := by decide +kernel
theorem dX5_find_8 : decode cX5_find 8 = .ok (.iconst 0, 1) := by decide +kernel
theorem dX5_find_9 : decode cX5_find 9 = .ok (.iconst 1, 1) := by decide +kernel
theorem dX5_find_10 : decode cX5_find 10 = .ok (.invokevirtual 19, 3) := by decide +kernel
theorem dX5_find_13 : decode cX5_find 13 = .ok (.ireturn, 1) := by decide +kernel
theorem dX5_signOfWord_0 : decode cX5_signOfWord 0 = .ok (.iconst 1, 1) := by decide +kernel
theorem dX5_signOfWord_1 : decode cX5_signOfWord 1 = .ok (.istore_n 3, 1) := by decide +kernel
theorem dX5_signOfWord_2 : decode cX5_signOfWord 2 = .ok (.iconst 0, 1) := by decide +kernel
theorem dX5_signOfWord_3 : decode cX5_signOfWord 3 = .ok (.istore 4, 2) := by decide +kernel
theorem dX5_signOfWord_5 : decode cX5_signOfWord 5 = .ok (.iload 4, 2) := by decide +kernel
theorem dX5_signOfWord_7 : decode cX5_signOfWord 7 = .ok (.iload_n 2, 1) := by decide +kernel
theorem dX5_signOfWord_8 : decode cX5_signOfWord 8 = .ok (.if_icmp .ge 26, 3) := by decide +kernel
theorem dX5_signOfWord_11 : decode cX5_signOfWord 11 = .ok (.iload_n 3, 1) := by decide +kernel
theorem dX5_signOfWord_12 : decode cX5_signOfWord 12 = .ok (.aload_n 1, 1) := by decide +kernel
theorem dX5_signOfWord_13 : decode cX5_signOfWord 13 = .ok (.getfield 23, 3) := by decide +kernel
theorem dX5_signOfWord_16 : decode cX5_signOfWord 16 = .ok (.aload_n 0, 1) := by decide +kernel
theorem dX5_signOfWord_17 : decode cX5_signOfWord 17 = .ok (.getfield 9, 3) := by decide +kernel
theorem dX5_signOfWord_20 : decode cX5_signOfWord 20 = .ok (.iload 4, 2) := by decide +kernel
theorem dX5_signOfWord_22 : decode cX5_signOfWord 22 = .ok (.iaload, 1) := by decide +kernel
theorem dX5_signOfWord_23 : decode cX5_signOfWord 23 = .ok (.iconst 2, 1) := by decide +kernel
theorem dX5_signOfWord_24 : decode cX5_signOfWord 24 = .ok (.idiv, 1) := by decide +kernel
theorem dX5_signOfWord_25 : decode cX5_signOfWord 25 = .ok (.iaload, 1) := by decide +kernel
theorem dX5_signOfWord_26 : decode cX5_signOfWord 26 = .ok (.imul, 1) := by decide +kernel
theorem dX5_signOfWord_27 : decode cX5_signOfWord 27 = .ok (.istore_n 3, 1) := by decide +kernel
theorem dX5_signOfWord_28 : decode cX5_signOfWord 28 = .ok (.iinc 4 1, 3) := by decide +kernel
theorem dX5_signOfWord_31 : decode cX5_signOfWord 31 = .ok (.goto (-26), 3) := by decide +kernel
theorem dX5_signOfWord_34 : decode cX5_signOfWord 34 = .ok (.iload_n 3, 1) := by decide +kernel
theorem dX5_signOfWord_35 : decode cX5_signOfWord 35 = .ok (.ireturn, 1) := by decide +kernel
theorem dX5_extend_0 : decode cX5_extend 0 = .ok (.iload_n 3, 1) := by decide +kernel
theorem dX5_extend_1 : decode cX5_extend 1 = .ok (.iload_n 2, 1) := by decide +kernel
theorem dX5_extend_2 : decode cX5_extend 2 = .ok (.if_icmp .lt 12, 3) := by decide +kernel
theorem dX5_extend_5 : decode cX5_extend 5 = .ok (.aload_n 0, 1) := by decide +kernel
theorem dX5_extend_6 : decode cX5_extend 6 = .ok (.aload_n 1, 1) := by decide +kernel
theorem dX5_extend_7 : decode cX5_extend 7 = .ok (.iload_n 2, 1) := by decide +kernel
theorem dX5_extend_8 : decode cX5_extend 8 = .ok (.iload 4, 2) := by decide +kernel
theorem dX5_extend_10 : decode cX5_extend 10 = .ok (.invokevirtual 28, 3) := by decide +kernel
theorem dX5_extend_13 : decode cX5_extend 13 = .ok (.ireturn, 1) := by decide +kernel
theorem dX5_extend_14 : decode cX5_extend 14 = .ok (.iload_n 3, 1) := by decide +kernel
theorem dX5_extend_15 : decode cX5_extend 15 = .ok (.ifCond .ne 7, 3) := by decide +kernel
theorem dX5_extend_18 : decode cX5_extend 18 = .ok (.iconst 0, 1) := by decide +kernel
theorem dX5_extend_19 : decode cX5_extend 19 = .ok (.goto 12, 3) := by decide +kernel
theorem dX5_extend_22 : decode cX5_extend 22 = .ok (.aload_n 0, 1) := by decide +kernel
theorem dX5_extend_23 : decode cX5_extend 23 = .ok (.getfield 9, 3) := by decide +kernel
theorem dX5_extend_26 : decode cX5_extend 26 = .ok (.iload_n 3, 1) := by decide +kernel
theorem dX5_extend_27 : decode cX5_extend 27 = .ok (.iload 4, 2) := by decide +kernel
theorem dX5_extend_29 : decode cX5_extend 29 = .ok (.isub, 1) := by decide +kernel
theorem dX5_extend_30 : decode cX5_extend 30 = .ok (.iaload, 1) := by decide +kernel
theorem dX5_extend_31 : decode cX5_extend 31 = .ok (.istore 5, 2) := by decide +kernel
theorem dX5_extend_33 : decode cX5_extend 33 = .ok (.iload 5, 2) := by decide +kernel
theorem dX5_extend_35 : decode cX5_extend 35 = .ok (.istore 6, 2) := by decide +kernel
theorem dX5_extend_37 : decode cX5_extend 37 = .ok (.iload 6, 2) := by decide +kernel
theorem dX5_extend_39 : decode cX5_extend 39 = .ok (.iconst 2, 1) := by decide +kernel
theorem dX5_extend_40 : decode cX5_extend 40 = .ok (.aload_n 1, 1) := by decide +kernel
theorem dX5_extend_41 : decode cX5_extend 41 = .ok (.getfield 32, 3) := by decide +kernel
theorem dX5_extend_44 : decode cX5_extend 44 = .ok (.imul, 1) := by decide +kernel
theorem dX5_extend_45 : decode cX5_extend 45 = .ok (.if_icmp .ge 86, 3) := by decide +kernel
theorem dX5_extend_48 : decode cX5_extend 48 = .ok (.iload_n 3, 1) := by decide +kernel
theorem dX5_extend_49 : decode cX5_extend 49 = .ok (.ifCond .le 23, 3) := by decide +kernel
theorem dX5_extend_52 : decode cX5_extend 52 = .ok (.aload_n 1, 1) := by decide +kernel
theorem dX5_extend_53 : decode cX5_extend 53 = .ok (.aload_n 0, 1) := by decide +kernel
theorem dX5_extend_54 : decode cX5_extend 54 = .ok (.getfield 9, 3) := by decide +kernel
theorem dX5_extend_57 : decode cX5_extend 57 = .ok (.iload_n 3, 1) := by decide +kernel
theorem dX5_extend_58 : decode cX5_extend 58 = .ok (.iconst 1, 1) := by decide +kernel
theorem dX5_extend_59 : decode cX5_extend 59 = .ok (.isub, 1) := by decide +kernel
theorem dX5_extend_60 : decode cX5_extend 60 = .ok (.iaload, 1) := by decide +kernel
theorem dX5_extend_61 : decode cX5_extend 61 = .ok (.iload 6, 2) := by decide +kernel
theorem dX5_extend_63 : decode cX5_extend 63 = .ok (.invokevirtual 35, 3) := by decide +kernel
theorem dX5_extend_66 : decode cX5_extend 66 = .ok (.ifCond .ne 6, 3) := by decide +kernel
theorem dX5_extend_69 : decode cX5_extend 69 = .ok (.goto 56, 3) := by decide +kernel
theorem dX5_extend_72 : decode cX5_extend 72 = .ok (.aload_n 0, 1) := by decide +kernel
theorem dX5_extend_73 : decode cX5_extend 73 = .ok (.getfield 9, 3) := by decide +kernel
theorem dX5_extend_76 : decode cX5_extend 76 = .ok (.iload_n 3, 1) := by decide +kernel
theorem dX5_extend_77 : decode cX5_extend 77 = .ok (.iload 6, 2) := by decide +kernel
theorem dX5_extend_79 : decode cX5_extend 79 = .ok (.iastore, 1) := by decide +kernel
theorem dX5_extend_80 : decode cX5_extend 80 = .ok (.iload_n 3, 1) := by decide +kernel
theorem dX5_extend_81 : decode cX5_extend 81 = .ok (.ifCond .le 14, 3) := by decide +kernel
theorem dX5_extend_84 : decode cX5_extend 84 = .ok (.iload 6, 2) := by decide +kernel
theorem dX5_extend_86 : decode cX5_extend 86 = .ok (.iload 5, 2) := by decide +kernel
theorem dX5_extend_88 : decode cX5_extend 88 = .ok (.if_icmp .ne 7, 3) := by decide +kernel
theorem dX5_extend_91 : decode cX5_extend 91 = .ok (.iconst 1, 1) := by decide +kernel
theorem dX5_extend_92 : decode cX5_extend 92 = .ok (.goto 4, 3) := by decide +kernel
theorem dX5_extend_95 : decode cX5_extend 95 = .ok (.iconst 0, 1) := by decide +kernel
theorem dX5_extend_96 : decode cX5_extend 96 = .ok (.istore 7, 2) := by decide +kernel
theorem dX5_extend_98 : decode cX5_extend 98 = .ok (.aload_n 0, 1) := by decide +kernel
theorem dX5_extend_99 : decode cX5_extend 99 = .ok (.aload_n 1, 1) := by decide +kernel
theorem dX5_extend_100 : decode cX5_extend 100 = .ok (.iload_n 2, 1) := by decide +kernel
theorem dX5_extend_101 : decode cX5_extend 101 = .ok (.iload_n 3, 1) := by decide +kernel
theorem dX5_extend_102 : decode cX5_extend 102 = .ok (.iconst 1, 1) := by decide +kernel
theorem dX5_extend_103 : decode cX5_extend 103 = .ok (.iadd, 1) := by decide +kernel
theorem dX5_extend_104 : decode cX5_extend 104 = .ok (.iload 7, 2) := by decide +kernel
theorem dX5_extend_106 : decode cX5_extend 106 = .ok (.ifCond .eq 8, 3) := by decide +kernel
theorem dX5_extend_109 : decode cX5_extend 109 = .ok (.iload 4, 2) := by decide +kernel
theorem dX5_extend_111 : decode cX5_extend 111 = .ok (.goto 6, 3) := by decide +kernel
theorem dX5_extend_114 : decode cX5_extend 114 = .ok (.iload_n 3, 1) := by decide +kernel
theorem dX5_extend_115 : decode cX5_extend 115 = .ok (.iconst 1, 1) := by decide +kernel
theorem dX5_extend_116 : decode cX5_extend 116 = .ok (.iadd, 1) := by decide +kernel
theorem dX5_extend_117 : decode cX5_extend 117 = .ok (.invokevirtual 19, 3) := by decide +kernel
theorem dX5_extend_120 : decode cX5_extend 120 = .ok (.ifCond .eq 5, 3) := by decide +kernel
theorem dX5_extend_123 : decode cX5_extend 123 = .ok (.iconst 1, 1) := by decide +kernel
theorem dX5_extend_124 : decode cX5_extend 124 = .ok (.ireturn, 1) := by decide +kernel
theorem dX5_extend_125 : decode cX5_extend 125 = .ok (.iinc 6 1, 3) := by decide +kernel
theorem dX5_extend_128 : decode cX5_extend 128 = .ok (.goto (-91), 3) := by decide +kernel
theorem dX5_extend_131 : decode cX5_extend 131 = .ok (.iconst 0, 1) := by decide +kernel
theorem dX5_extend_132 : decode cX5_extend 132 = .ok (.ireturn, 1) := by decide +kernel
theorem dX5_isWanted_0 : decode cX5_isWanted 0 = .ok (.iload_n 3, 1) := by decide +kernel
theorem dX5_isWanted_1 : decode cX5_isWanted 1 = .ok (.iload_n 2, 1) := by decide +kernel
theorem dX5_isWanted_2 : decode cX5_isWanted 2 = .ok (.if_icmp .ne 24, 3) := by decide +kernel
theorem dX5_isWanted_5 : decode cX5_isWanted 5 = .ok (.aload_n 1, 1) := by decide +kernel
theorem dX5_isWanted_6 : decode cX5_isWanted 6 = .ok (.aload_n 0, 1) := by decide +kernel
theorem dX5_isWanted_7 : decode cX5_isWanted 7 = .ok (.getfield 9, 3) := by decide +kernel
theorem dX5_isWanted_10 : decode cX5_isWanted 10 = .ok (.iload_n 2, 1) := by decide +kernel
theorem dX5_isWanted_11 : decode cX5_isWanted 11 = .ok (.iconst 1, 1) := by decide +kernel
theorem dX5_isWanted_12 : decode cX5_isWanted 12 = .ok (.isub, 1) := by decide +kernel
theorem dX5_isWanted_13 : decode cX5_isWanted 13 = .ok (.iaload, 1) := by decide +kernel
theorem dX5_isWanted_14 : decode cX5_isWanted 14 = .ok (.aload_n 0, 1) := by decide +kernel
theorem dX5_isWanted_15 : decode cX5_isWanted 15 = .ok (.getfield 9, 3) := by decide +kernel
theorem dX5_isWanted_18 : decode cX5_isWanted 18 = .ok (.iconst 0, 1) := by decide +kernel
theorem dX5_isWanted_19 : decode cX5_isWanted 19 = .ok (.iaload, 1) := by decide +kernel
theorem dX5_isWanted_20 : decode cX5_isWanted 20 = .ok (.invokevirtual 35, 3) := by decide +kernel
theorem dX5_isWanted_23 : decode cX5_isWanted 23 = .ok (.ifCond .ne 5, 3) := by decide +kernel
theorem dX5_isWanted_26 : decode cX5_isWanted 26 = .ok (.iconst 0, 1) := by decide +kernel
theorem dX5_isWanted_27 : decode cX5_isWanted 27 = .ok (.ireturn, 1) := by decide +kernel
theorem dX5_isWanted_28 : decode cX5_isWanted 28 = .ok (.aload_n 0, 1) := by decide +kernel
theorem dX5_isWanted_29 : decode cX5_isWanted 29 = .ok (.getfield 15, 3) := by decide +kernel
theorem dX5_isWanted_32 : decode cX5_isWanted 32 = .ok (.ifCond .le 15, 3) := by decide +kernel
theorem dX5_isWanted_35 : decode cX5_isWanted 35 = .ok (.aload_n 0, 1) := by decide +kernel
theorem dX5_isWanted_36 : decode cX5_isWanted 36 = .ok (.dup, 1) := by decide +kernel
theorem dX5_isWanted_37 : decode cX5_isWanted 37 = .ok (.getfield 15, 3) := by decide +kernel
theorem dX5_isWanted_40 : decode cX5_isWanted 40 = .ok (.iconst 1, 1) := by decide +kernel
theorem dX5_isWanted_41 : decode cX5_isWanted 41 = .ok (.isub, 1) := by decide +kernel
theorem dX5_isWanted_42 : decode cX5_isWanted 42 = .ok (.putfield 15, 3) := by decide +kernel
theorem dX5_isWanted_45 : decode cX5_isWanted 45 = .ok (.iconst 0, 1) := by decide +kernel
theorem dX5_isWanted_46 : decode cX5_isWanted 46 = .ok (.ireturn, 1) := by decide +kernel
theorem dX5_isWanted_47 : decode cX5_isWanted 47 = .ok (.iconst 1, 1) := by decide +kernel
theorem dX5_isWanted_48 : decode cX5_isWanted 48 = .ok (.ireturn, 1) := by decide +kernel
end
section
theorem dX6_init_0 : decode cX6_init 0 = .ok (.aload_n 0, 1) := by decide +kernel
theorem dX6_init_1 : decode cX6_init 1 = .ok (.invokespecial 3, 3) := by decide +kernel
theorem dX6_init_4 : decode cX6_init 4 = .ok (.aload_n 0, 1) := by decide +kernel
theorem dX6_init_5 : decode cX6_init 5 = .ok (.bipush 19, 2) := by decide +kernel
theorem dX6_init_7 : decode cX6_init 7 = .ok (.newarray .long, 2) := by decide +kernel
theorem dX6_init_9 : decode cX6_init 9 = .ok (.putfield 9, 3) := by decide +kernel
theorem dX6_init_12 : decode cX6_init 12 = .ok (.aload_n 0, 1) := by decide +kernel
theorem dX6_init_13 : decode cX6_init 13 = .ok (.bipush 64, 2) := by decide +kernel
theorem dX6_init_15 : decode cX6_init 15 = .ok (.bipush 13, 2) := by decide +kernel
theorem dX6_init_17 : decode cX6_init 17 = .ok (.multianewarray 15 2, 4) := by decide +kernel
theorem dX6_init_21 : decode cX6_init 21 = .ok (.putfield 17, 3) := by decide +kernel
theorem dX6_init_24 : decode cX6_init 24 = .ok (.return_, 1) := by decide +kernel
theorem dX6_makeFrom_0 : decode cX6_makeFrom 0 = .ok (.aload_n 0, 1) := by decide +kernel
theorem dX6_makeFrom_1 : decode cX6_makeFrom 1 = .ok (.getfield 17, 3) := by decide +kernel
theorem dX6_makeFrom_4 : decode cX6_makeFrom 4 = .ok (.iconst 0, 1) := by decide +kernel
theorem dX6_makeFrom_5 : decode cX6_makeFrom 5 = .ok (.aaload, 1) := by decide +kernel
theorem dX6_makeFrom_6 : decode cX6_makeFrom 6 = .ok (.lconst 0, 1) := by decide +kernel
theorem dX6_makeFrom_7 : decode cX6_makeFrom 7 = .ok (.invokestatic 20, 3) := by decide +kernel
theorem dX6_makeFrom_10 : decode cX6_makeFrom 10 = .ok (.aload_n 0, 1) := by decide +kernel
theorem dX6_makeFrom_11 : decode cX6_makeFrom 11 = .ok (.getfield 17, 3) := by decide +kernel
theorem dX6_makeFrom_14 : decode cX6_makeFrom 14 = .ok (.iconst 0, 1) := by decide +kernel
theorem dX6_makeFrom_15 : decode cX6_makeFrom 15 = .ok (.aaload, 1) := by decide +kernel
theorem dX6_makeFrom_16 : decode cX6_makeFrom 16 = .ok (.iconst 0, 1) := by decide +kernel
theorem dX6_makeFrom_17 : decode cX6_makeFrom 17 = .ok (.lconst 1, 1) := by decide +kernel
theorem dX6_makeFrom_18 : decode cX6_makeFrom 18 = .ok (.lastore, 1) := by decide +kernel
theorem dX6_makeFrom_19 : decode cX6_makeFrom 19 = .ok (.iconst 1, 1) := by decide +kernel
theorem dX6_makeFrom_20 : decode cX6_makeFrom 20 = .ok (.aload_n 1, 1) := by decide +kernel
theorem dX6_makeFrom_21 : decode cX6_makeFrom 21 = .ok (.getfield 26, 3) := by decide +kernel
theorem dX6_makeFrom_24 : decode cX6_makeFrom 24 = .ok (.ishl, 1) := by decide +kernel
theorem dX6_makeFrom_25 : decode cX6_makeFrom 25 = .ok (.iconst 1, 1) := by decide +kernel
theorem dX6_makeFrom_26 : decode cX6_makeFrom 26 = .ok (.isub, 1) := by decide +kernel
theorem dX6_makeFrom_27 : decode cX6_makeFrom 27 = .ok (.istore_n 2, 1) := by decide +kernel
theorem dX6_makeFrom_28 : decode cX6_makeFrom 28 = .ok (.iconst 1, 1) := by decide +kernel
theorem dX6_makeFrom_29 : decode cX6_makeFrom 29 = .ok (.istore_n 3, 1) := by decide +kernel
theorem dX6_makeFrom_30 : decode cX6_makeFrom 30 = .ok (.iload_n 3, 1) := by decide +kernel
theorem dX6_makeFrom_31 : decode cX6_makeFrom 31 = .ok (.iload_n 2, 1) := by decide +kernel
theorem dX6_makeFrom_32 : decode cX6_makeFrom 32 = .ok (.if_icmp .gt 15, 3) := by decide +kernel
theorem dX6_makeFrom_35 : decode cX6_makeFrom 35 = .ok (.aload_n 0, 1) := by decide +kernel
theorem dX6_makeFrom_36 : decode cX6_makeFrom 36 = .ok (.aload_n 1, 1) := by decide +kernel
theorem dX6_makeFrom_37 : decode cX6_makeFrom 37 = .ok (.iload_n 3, 1) := by decide +kernel
theorem dX6_makeFrom_38 : decode cX6_makeFrom 38 = .ok (.invokevirtual 32, 3) := by decide +kernel
theorem dX6_makeFrom_41 : decode cX6_makeFrom 41 = .ok (.iinc 3 1, 3) := by decide +kernel
theorem dX6_makeFrom_44 : decode cX6_makeFrom 44 = .ok (.goto (-14), 3) := by decide +kernel
theorem dX6_makeFrom_47 : decode cX6_makeFrom 47 = .ok (.aload_n 0, 1) := by decide +kernel
theorem dX6_makeFrom_48 : decode cX6_makeFrom 48 = .ok (.getfield 9, 3) := by decide +kernel
theorem dX6_makeFrom_51 : decode cX6_makeFrom 51 = .ok (.lconst 0, 1) := by decide +kernel
theorem dX6_makeFrom_52 : decode cX6_makeFrom 52 = .ok (.invokestatic 20, 3) := by decide +kernel
theorem dX6_makeFrom_55 : decode cX6_makeFrom 55 = .ok (.aload_n 0, 1) := by decide +kernel
theorem dX6_makeFrom_56 : decode cX6_makeFrom 56 = .ok (.getfield 17, 3) := by decide +kernel
theorem dX6_makeFrom_59 : decode cX6_makeFrom 59 = .ok (.iload_n 2, 1) := by decide +kernel
theorem dX6_makeFrom_60 : decode cX6_makeFrom 60 = .ok (.aaload, 1) := by decide +kernel
theorem dX6_makeFrom_61 : decode cX6_makeFrom 61 = .ok (.iconst 0, 1) := by decide +kernel
theorem dX6_makeFrom_62 : decode cX6_makeFrom 62 = .ok (.aload_n 0, 1) := by decide +kernel
theorem dX6_makeFrom_63 : decode cX6_makeFrom 63 = .ok (.getfield 9, 3) := by decide +kernel
theorem dX6_makeFrom_66 : decode cX6_makeFrom 66 = .ok (.iconst 0, 1) := by decide +kernel
theorem dX6_makeFrom_67 : decode cX6_makeFrom 67 = .ok (.bipush 13, 2) := by decide +kernel
theorem dX6_makeFrom_69 : decode cX6_makeFrom 69 = .ok (.invokestatic 36, 3) := by decide +kernel
theorem dX6_makeFrom_72 : decode cX6_makeFrom 72 = .ok (.return_, 1) := by decide +kernel
theorem dX6_turnIntoBass_0 : decode cX6_turnIntoBass 0 = .ok (.iconst 0, 1) := by decide +kernel
theorem dX6_turnIntoBass_1 : decode cX6_turnIntoBass 1 = .ok (.istore_n 2, 1) := by decide +kernel
theorem dX6_turnIntoBass_2 : decode cX6_turnIntoBass 2 = .ok (.iload_n 2, 1) := by decide +kernel
theorem dX6_turnIntoBass_3 : decode cX6_turnIntoBass 3 = .ok (.iload_n 1, 1) := by decide +kernel
theorem dX6_turnIntoBass_4 : decode cX6_turnIntoBass 4 = .ok (.if_icmp .ge 40, 3) := by decide +kernel
theorem dX6_turnIntoBass_7 : decode cX6_turnIntoBass 7 = .ok (.bipush 18, 2) := by decide +kernel
theorem dX6_turnIntoBass_9 : decode cX6_turnIntoBass 9 = .ok (.istore_n 3, 1) := by decide +kernel
theorem dX6_turnIntoBass_10 : decode cX6_turnIntoBass 10 = .ok (.iload_n 3, 1) := by decide +kernel
theorem dX6_turnIntoBass_11 : decode cX6_turnIntoBass 11 = .ok (.iconst 2, 1) := by decide +kernel
theorem dX6_turnIntoBass_12 : decode cX6_turnIntoBass 12 = .ok (.if_icmp .lt 26, 3) := by decide +kernel
theorem dX6_turnIntoBass_15 : decode cX6_turnIntoBass 15 = .ok (.aload_n 0, 1) := by decide +kernel
theorem dX6_turnIntoBass_16 : decode cX6_turnIntoBass 16 = .ok (.getfield 9, 3) := by decide +kernel
theorem dX6_turnIntoBass_19 : decode cX6_turnIntoBass 19 = .ok (.iload_n 3, 1) := by decide +kernel
theorem dX6_turnIntoBass_20 : decode cX6_turnIntoBass 20 = .ok (.dup2, 1) := by decide +kernel
theorem dX6_turnIntoBass_21 : decode cX6_turnIntoBass 21 = .ok (.laload, 1) := by decide +kernel
theorem dX6_turnIntoBass_22 : decode cX6_turnIntoBass 22 = .ok (.aload_n 0, 1) := by decide +kernel
theorem dX6_turnIntoBass_23 : decode cX6_turnIntoBass 23 = .ok (.getfield 9, 3) := by decide +kernel
theorem dX6_turnIntoBass_26 : decode cX6_turnIntoBass 26 = .ok (.iload_n 3, 1) := by decide +kernel
theorem dX6_turnIntoBass_27 : decode cX6_turnIntoBass 27 = .ok (.iconst 2, 1) := by decide +kernel
theorem dX6_turnIntoBass_28 : decode cX6_turnIntoBass 28 = .ok (.isub, 1) := by decide +kernel
theorem dX6_turnIntoBass_29 : decode cX6_turnIntoBass 29 = .ok (.laload, 1) := by decide +kernel
theorem dX6_turnIntoBass_30 : decode cX6_turnIntoBass 30 = .ok (.lsub, 1) := by decide +kernel
theorem dX6_turnIntoBass_31 : decode cX6_turnIntoBass 31 = .ok (.lastore, 1) := by decide +kernel
theorem dX6_turnIntoBass_32 : decode cX6_turnIntoBass 32 = .ok (.iinc 3 (-1), 3) := by decide +kernel
theorem dX6_turnIntoBass_35 : decode cX6_turnIntoBass 35 = .ok (.goto (-25), 3) := by decide +kernel
theorem dX6_turnIntoBass_38 : decode cX6_turnIntoBass 38 = .ok (.iinc 2 1, 3) := by decide +kernel
theorem dX6_turnIntoBass_41 : decode cX6_turnIntoBass 41 = .ok (.goto (-39), 3) := by decide +kernel
theorem dX6_turnIntoBass_44 : decode cX6_turnIntoBass 44 = .ok (.iconst 0, 1) := by decide +kernel
theorem dX6_turnIntoBass_45 : decode cX6_turnIntoBass 45 = .ok (.istore_n 2, 1) := by decide +kernel
theorem dX6_turnIntoBass_46 : decode cX6_turnIntoBass 46 = .ok (.iload_n 2, 1) := by decide +kernel
theorem dX6_turnIntoBass_47 : decode cX6_turnIntoBass 47 = .ok (.iload_n 1, 1) := by decide +kernel
theorem dX6_turnIntoBass_48 : decode cX6_turnIntoBass 48 = .ok (.ineg, 1) := by decide +kernel
theorem dX6_turnIntoBass_49 : decode cX6_turnIntoBass 49 = .ok (.if_icmp .ge 40, 3) := by decide +kernel
theorem dX6_turnIntoBass_52 : decode cX6_turnIntoBass 52 = .ok (.iconst 2, 1) := by decide +kernel
theorem dX6_turnIntoBass_53 : decode cX6_turnIntoBass 53 = .ok (.istore_n 3, 1) := by decide +kernel
theorem dX6_turnIntoBass_54 : decode cX6_turnIntoBass 54 = .ok (.iload_n 3, 1) := by decide +kernel
theorem dX6_turnIntoBass_55 : decode cX6_turnIntoBass 55 = .ok (.bipush 18, 2) := by decide +kernel
theorem dX6_turnIntoBass_57 : decode cX6_turnIntoBass 57 = .ok (.if_icmp .gt 26, 3) := by decide +kernel
theorem dX6_turnIntoBass_60 : decode cX6_turnIntoBass 60 = .ok (.aload_n 0, 1) := by decide +kernel
theorem dX6_turnIntoBass_61 : decode cX6_turnIntoBass 61 = .ok (.getfield 9, 3) := by decide +kernel
theorem dX6_turnIntoBass_64 : decode cX6_turnIntoBass 64 = .ok (.iload_n 3, 1) := by decide +kernel
theorem dX6_turnIntoBass_65 : decode cX6_turnIntoBass 65 = .ok (.dup2, 1) := by decide +kernel
theorem dX6_turnIntoBass_66 : decode cX6_turnIntoBass 66 = .ok (.laload, 1) := by decide +kernel
theorem dX6_turnIntoBass_67 : decode cX6_turnIntoBass 67 = .ok (.aload_n 0, 1) := by decide +kernel
theorem dX6_turnIntoBass_68 : decode cX6_turnIntoBass 68 = .ok (.getfield 9, 3) := by decide +kernel
theorem dX6_turnIntoBass_71 : decode cX6_turnIntoBass 71 = .ok (.iload_n 3, 1) := by decide +kernel
theorem dX6_turnIntoBass_72 : decode cX6_turnIntoBass 72 = .ok (.iconst 2, 1) := by decide +kernel
theorem dX6_turnIntoBass_73 : decode cX6_turnIntoBass 73 = .ok (.isub, 1) := by decide +kernel
theorem dX6_turnIntoBass_74 : decode cX6_turnIntoBass 74 = .ok (.laload, 1) := by decide +kernel
theorem dX6_turnIntoBass_75 : decode cX6_turnIntoBass 75 = .ok (.ladd, 1) := by decide +kernel
theorem dX6_turnIntoBass_76 : decode cX6_turnIntoBass 76 = .ok (.lastore, 1) := by decide +kernel
theorem dX6_turnIntoBass_77 : decode cX6_turnIntoBass 77 = .ok (.iinc 3 1, 3) := by decide +kernel
theorem dX6_turnIntoBass_80 : decode cX6_turnIntoBass 80 = .ok (.goto (-26), 3) := by decide +kernel
theorem dX6_turnIntoBass_83 : decode cX6_turnIntoBass 83 = .ok (.iinc 2 1, 3) := by decide +kernel
theorem dX6_turnIntoBass_86 : decode cX6_turnIntoBass 86 = .ok (.goto (-40), 3) := by decide +kernel
theorem dX6_turnIntoBass_89 : decode cX6_turnIntoBass 89 = .ok (.return_, 1) := by decide +kernel
theorem dX6_makeMinor_0 : decode cX6_makeMinor 0 = .ok (.aload_n 0, 1) := by decide +kernel
theorem dX6_makeMinor_1 : decode cX6_makeMinor 1 = .ok (.getfield 17, 3) := by decide +kernel
theorem dX6_makeMinor_4 : decode cX6_makeMinor 4 = .ok (.iload_n 2, 1) := by decide +kernel
theorem dX6_makeMinor_5 : decode cX6_makeMinor 5 = .ok (.aaload, 1) := by decide +kernel
theorem dX6_makeMinor_6 : decode cX6_makeMinor 6 = .ok (.astore_n 3, 1) := by decide +kernel
theorem dX6_makeMinor_7 : decode cX6_makeMinor 7 = .ok (.aload_n 3, 1) := by decide +kernel
theorem dX6_makeMinor_8 : decode cX6_makeMinor 8 = .ok (.lconst 0, 1) := by decide +kernel
theorem dX6_makeMinor_9 : decode cX6_makeMinor 9 = .ok (.invokestatic 20, 3) := by decide +kernel
theorem dX6_makeMinor_12 : decode cX6_makeMinor 12 = .ok (.iload_n 2, 1) := by decide +kernel
theorem dX6_makeMinor_13 : decode cX6_makeMinor 13 = .ok (.invokestatic 42, 3) := by decide +kernel
theorem dX6_makeMinor_16 : decode cX6_makeMinor 16 = .ok (.iconst 1, 1) := by decide +kernel
theorem dX6_makeMinor_17 : decode cX6_makeMinor 17 = .ok (.isub, 1) := by decide +kernel
theorem dX6_makeMinor_18 : decode cX6_makeMinor 18 = .ok (.istore 4, 2) := by decide +kernel
theorem dX6_makeMinor_20 : decode cX6_makeMinor 20 = .ok (.lconst 1, 1) := by decide +kernel
theorem dX6_makeMinor_21 : decode cX6_makeMinor 21 = .ok (.lstore 5, 2) := by decide +kernel
theorem dX6_makeMinor_23 : decode cX6_makeMinor 23 = .ok (.aload_n 1, 1) := by decide +kernel
theorem dX6_makeMinor_24 : decode cX6_makeMinor 24 = .ok (.getfield 26, 3) := by decide +kernel
theorem dX6_makeMinor_27 : decode cX6_makeMinor 27 = .ok (.iconst 1, 1) := by decide +kernel
theorem dX6_makeMinor_28 : decode cX6_makeMinor 28 = .ok (.isub, 1) := by decide +kernel
theorem dX6_makeMinor_29 : decode cX6_makeMinor 29 = .ok (.istore 7, 2) := by decide +kernel
theorem dX6_makeMinor_31 : decode cX6_makeMinor 31 = .ok (.iload 7, 2) := by decide +kernel
theorem dX6_makeMinor_33 : decode cX6_makeMinor 33 = .ok (.ifCond .lt 46, 3) := by decide +kernel
theorem dX6_makeMinor_36 : decode cX6_makeMinor 36 = .ok (.iload_n 2, 1) := by decide +kernel
theorem dX6_makeMinor_37 : decode cX6_makeMinor 37 = .ok (.iload 7, 2) := by decide +kernel
theorem dX6_makeMinor_39 : decode cX6_makeMinor 39 = .ok (.ishr, 1) := by decide +kernel
theorem dX6_makeMinor_40 : decode cX6_makeMinor 40 = .ok (.iconst 1, 1) := by decide +kernel
theorem dX6_makeMinor_41 : decode cX6_makeMinor 41 = .ok (.iand, 1) := by decide +kernel
theorem dX6_makeMinor_42 : decode cX6_makeMinor 42 = .ok (.iconst 1, 1) := by decide +kernel
theorem dX6_makeMinor_43 : decode cX6_makeMinor 43 = .ok (.if_icmp .ne 30, 3) := by decide +kernel
theorem dX6_makeMinor_46 : decode cX6_makeMinor 46 = .ok (.aload_n 1, 1) := by decide +kernel
theorem dX6_makeMinor_47 : decode cX6_makeMinor 47 = .ok (.iload 4, 2) := by decide +kernel
theorem dX6_makeMinor_49 : decode cX6_makeMinor 49 = .ok (.iload 7, 2) := by decide +kernel
theorem dX6_makeMinor_51 : decode cX6_makeMinor 51 = .ok (.lload 5, 2) := by decide +kernel
theorem dX6_makeMinor_53 : decode cX6_makeMinor 53 = .ok (.aload_n 0, 1) := by decide +kernel
theorem dX6_makeMinor_54 : decode cX6_makeMinor 54 = .ok (.getfield 17, 3) := by decide +kernel
theorem dX6_makeMinor_57 : decode cX6_makeMinor 57 = .ok (.iload_n 2, 1) := by decide +kernel
theorem dX6_makeMinor_58 : decode cX6_makeMinor 58 = .ok (.iconst 1, 1) := by decide +kernel
theorem dX6_makeMinor_59 : decode cX6_makeMinor 59 = .ok (.iload 7, 2) := by decide +kernel
theorem dX6_makeMinor_61 : decode cX6_makeMinor 61 = .ok (.ishl, 1) := by decide +kernel
theorem dX6_makeMinor_62 : decode cX6_makeMinor 62 = .ok (.ixor, 1) := by decide +kernel
theorem dX6_makeMinor_63 : decode cX6_makeMinor 63 = .ok (.aaload, 1) := by decide +kernel
theorem dX6_makeMinor_64 : decode cX6_makeMinor 64 = .ok (.aload_n 3, 1) := by decide +kernel
theorem dX6_makeMinor_65 : decode cX6_makeMinor 65 = .ok (.invokestatic 48, 3) := by decide +kernel
theorem dX6_makeMinor_68 : decode cX6_makeMinor 68 = .ok (.lload 5, 2) := by decide +kernel
theorem dX6_makeMinor_70 : decode cX6_makeMinor 70 = .ok (.lneg, 1) := by decide +kernel
theorem dX6_makeMinor_71 : decode cX6_makeMinor 71 = .ok (.lstore 5, 2) := by decide +kernel
theorem dX6_makeMinor_73 : decode cX6_makeMinor 73 = .ok (.iinc 7 (-1), 3) := by decide +kernel
theorem dX6_makeMinor_76 : decode cX6_makeMinor 76 = .ok (.goto (-45), 3) := by decide +kernel
theorem dX6_makeMinor_79 : decode cX6_makeMinor 79 = .ok (.return_, 1) := by decide +kernel
theorem dX6_addProduct_0 : decode cX6_addProduct 0 = .ok (.iload_n 1, 1) := by decide +kernel
theorem dX6_addProduct_1 : decode cX6_addProduct 1 = .ok (.iload_n 2, 1) := by decide +kernel
theorem dX6_addProduct_2 : decode cX6_addProduct 2 = .ok (.if_icmp .eq 22, 3) := by decide +kernel
theorem dX6_addProduct_5 : decode cX6_addProduct 5 = .ok (.aload 5, 2) := by decide +kernel
theorem dX6_addProduct_7 : decode cX6_addProduct 7 = .ok (.iconst 1, 1) := by decide +kernel
theorem dX6_addProduct_8 : decode cX6_addProduct 8 = .ok (.lload_n 3, 1) := by decide +kernel
theorem dX6_addProduct_9 : decode cX6_addProduct 9 = .ok (.lneg, 1) := by decide +kernel
theorem dX6_addProduct_10 : decode cX6_addProduct 10 = .ok (.aload_n 0, 1) := by decide +kernel
theorem dX6_addProduct_11 : decode cX6_addProduct 11 = .ok (.iload_n 1, 1) := by decide +kernel
theorem dX6_addProduct_12 : decode cX6_addProduct 12 = .ok (.iload_n 2, 1) := by decide +kernel
theorem dX6_addProduct_13 : decode cX6_addProduct 13 = .ok (.invokevirtual 52, 3) := by decide +kernel
theorem dX6_addProduct_16 : decode cX6_addProduct 16 = .ok (.i2l, 1) := by decide +kernel
theorem dX6_addProduct_17 : decode cX6_addProduct 17 = .ok (.lmul, 1) := by decide +kernel
theorem dX6_addProduct_18 : decode cX6_addProduct 18 = .ok (.aload 6, 2) := by decide +kernel
theorem dX6_addProduct_20 : decode cX6_addProduct 20 = .ok (.invokestatic 56, 3) := by decide +kernel
theorem dX6_addProduct_23 : decode cX6_addProduct 23 = .ok (.return_, 1) := by decide +kernel
theorem dX6_addProduct_24 : decode cX6_addProduct 24 = .ok (.aload 5, 2) := by decide +kernel
theorem dX6_addProduct_26 : decode cX6_addProduct 26 = .ok (.iconst 0, 1) := by decide +kernel
theorem dX6_addProduct_27 : decode cX6_addProduct 27 = .ok (.lload_n 3, 1) := by decide +kernel
theorem dX6_addProduct_28 : decode cX6_addProduct 28 = .ok (.aload 6, 2) := by decide +kernel
theorem dX6_addProduct_30 : decode cX6_addProduct 30 = .ok (.invokestatic 56, 3) := by decide +kernel
theorem dX6_addProduct_33 : decode cX6_addProduct 33 = .ok (.aload 5, 2) := by decide +kernel
theorem dX6_addProduct_35 : decode cX6_addProduct 35 = .ok (.iconst 2, 1) := by decide +kernel
theorem dX6_addProduct_36 : decode cX6_addProduct 36 = .ok (.lload_n 3, 1) := by decide +kernel
theorem dX6_addProduct_37 : decode cX6_addProduct 37 = .ok (.aload_n 0, 1) := by decide +kernel
theorem dX6_addProduct_38 : decode cX6_addProduct 38 = .ok (.iload_n 1, 1) := by decide +kernel
theorem dX6_addProduct_39 : decode cX6_addProduct 39 = .ok (.invokevirtual 60, 3) := by decide +kernel
theorem dX6_addProduct_42 : decode cX6_addProduct 42 = .ok (.iconst 1, 1) := by decide +kernel
theorem dX6_addProduct_43 : decode cX6_addProduct 43 = .ok (.isub, 1) := by decide +kernel
theorem dX6_addProduct_44 : decode cX6_addProduct 44 = .ok (.i2l, 1) := by decide +kernel
theorem dX6_addProduct_45 : decode cX6_addProduct 45 = .ok (.lmul, 1) := by decide +kernel
theorem dX6_addProduct_46 : decode cX6_addProduct 46 = .ok (.aload 6, 2) := by decide +kernel
theorem dX6_addProduct_48 : decode cX6_addProduct 48 = .ok (.invokestatic 56, 3) := by decide +kernel
theorem dX6_addProduct_51 : decode cX6_addProduct 51 = .ok (.return_, 1) := by decide +kernel
theorem dX6_addShifted_0 : decode cX6_addShifted 0 = .ok (.iload_n 1, 1) := by decide +kernel
theorem dX6_addShifted_1 : decode cX6_addShifted 1 = .ok (.istore 5, 2) := by decide +kernel
theorem dX6_addShifted_3 : decode cX6_addShifted 3 = .ok (.iload 5, 2) := by decide +kernel
theorem dX6_addShifted_5 : decode cX6_addShifted 5 = .ok (.bipush 12, 2) := by decide +kernel
theorem dX6_addShifted_7 : decode cX6_addShifted 7 = .ok (.if_icmp .gt 25, 3) := by decide +kernel
theorem dX6_addShifted_10 : decode cX6_addShifted 10 = .ok (.aload 4, 2) := by decide +kernel
theorem dX6_addShifted_12 : decode cX6_addShifted 12 = .ok (.iload 5, 2) := by decide +kernel
theorem dX6_addShifted_14 : decode cX6_addShifted 14 = .ok (.dup2, 1) := by decide +kernel
theorem dX6_addShifted_15 : decode cX6_addShifted 15 = .ok (.laload, 1) := by decide +kernel
theorem dX6_addShifted_16 : decode cX6_addShifted 16 = .ok (.lload_n 2, 1) := by decide +kernel
theorem dX6_addShifted_17 : decode cX6_addShifted 17 = .ok (.aload_n 0, 1) := by decide +kernel
theorem dX6_addShifted_18 : decode cX6_addShifted 18 = .ok (.iload 5, 2) := by decide +kernel
theorem dX6_addShifted_20 : decode cX6_addShifted 20 = .ok (.iload_n 1, 1) := by decide +kernel
theorem dX6_addShifted_21 : decode cX6_addShifted 21 = .ok (.isub, 1) := by decide +kernel
theorem dX6_addShifted_22 : decode cX6_addShifted 22 = .ok (.laload, 1) := by decide +kernel
theorem dX6_addShifted_23 : decode cX6_addShifted 23 = .ok (.lmul, 1) := by decide +kernel
theorem dX6_addShifted_24 : decode cX6_addShifted 24 = .ok (.ladd, 1) := by decide +kernel
theorem dX6_addShifted_25 : decode cX6_addShifted 25 = .ok (.lastore, 1) := by decide +kernel
theorem dX6_addShifted_26 : decode cX6_addShifted 26 = .ok (.iinc 5 1, 3) := by decide +kernel
theorem dX6_addShifted_29 : decode cX6_addShifted 29 = .ok (.goto (-26), 3) := by decide +kernel
theorem dX6_addShifted_32 : decode cX6_addShifted 32 = .ok (.return_, 1) := by decide +kernel
end
section
theorem dX7_init_0 : decode cX7_init 0 = .ok (.aload_n 0, 1) := by decide +kernel
theorem dX7_init_1 : decode cX7_init 1 = .ok (.invokespecial 3, 3) := by decide +kernel
theorem dX7_init_4 : decode cX7_init 4 = .ok (.aload_n 0, 1) := by decide +kernel
theorem dX7_init_5 : decode cX7_init 5 = .ok (.bipush 19, 2) := by decide +kernel
theorem dX7_init_7 : decode cX7_init 7 = .ok (.newarray .long, 2) := by decide +kernel
theorem dX7_init_9 : decode cX7_init 9 = .ok (.putfield 9, 3) := by decide +kernel
theorem dX7_init_12 : decode cX7_init 12 = .ok (.aload_n 0, 1) := by decide +kernel
theorem dX7_init_13 : decode cX7_init 13 = .ok (.bipush 19, 2) := by decide +kernel
theorem dX7_init_15 : decode cX7_init 15 = .ok (.newarray .long, 2) := by decide +kernel
theorem dX7_init_17 : decode cX7_init 17 = .ok (.putfield 15, 3) := by decide +kernel
theorem dX7_init_20 : decode cX7_init 20 = .ok (.aload_n 0, 1) := by decide +kernel
theorem dX7_init_21 : decode cX7_init 21 = .ok (.bipush 19, 2) := by decide +kernel
theorem dX7_init_23 : decode cX7_init 23 = .ok (.newarray .long, 2) := by decide +kernel
theorem dX7_init_25 : decode cX7_init 25 = .ok (.putfield 18, 3) := by decide +kernel
theorem dX7_init_28 : decode cX7_init 28 = .ok (.aload_n 0, 1) := by decide +kernel
theorem dX7_init_29 : decode cX7_init 29 = .ok (.bipush 19, 2) := by decide +kernel
theorem dX7_init_31 : decode cX7_init 31 = .ok (.newarray .long, 2) := by decide +kernel
theorem dX7_init_33 : decode cX7_init 33 = .ok (.putfield 21, 3) := by decide +kernel
theorem dX7_init_36 : decode cX7_init 36 = .ok (.aload_n 0, 1) := by decide +kernel
theorem dX7_init_37 : decode cX7_init 37 = .ok (.bipush 18, 2) := by decide +kernel
theorem dX7_init_39 : decode cX7_init 39 = .ok (.newarray .long, 2) := by decide +kernel
theorem dX7_init_41 : decode cX7_init 41 = .ok (.putfield 24, 3) := by decide +kernel
theorem dX7_init_44 : decode cX7_init 44 = .ok (.aload_n 0, 1) := by decide +kernel
theorem dX7_init_45 : decode cX7_init 45 = .ok (.bipush 6, 2) := by decide +kernel
theorem dX7_init_47 : decode cX7_init 47 = .ok (.newarray .long, 2) := by decide +kernel
theorem dX7_init_49 : decode cX7_init 49 = .ok (.putfield 27, 3) := by decide +kernel
theorem dX7_init_52 : decode cX7_init 52 = .ok (.return_, 1) := by decide +kernel
theorem dX7_countClosed_0 : decode cX7_countClosed 0 = .ok (.aload_n 0, 1) := by decide +kernel
theorem dX7_countClosed_1 : decode cX7_countClosed 1 = .ok (.aload_n 1, 1) := by decide +kernel
theorem dX7_countClosed_2 : decode cX7_countClosed 2 = .ok (.iconst 0, 1) := by decide +kernel
theorem dX7_countClosed_3 : decode cX7_countClosed 3 = .ok (.aload_n 0, 1) := by decide +kernel
theorem dX7_countClosed_4 : decode cX7_countClosed 4 = .ok (.getfield 9, 3) := by decide +kernel
theorem dX7_countClosed_7 : decode cX7_countClosed 7 = .ok (.invokevirtual 30, 3) := by decide +kernel
theorem dX7_countClosed_10 : decode cX7_countClosed 10 = .ok (.return_, 1) := by decide +kernel
theorem dX7_countClosedSigned_0 : decode cX7_countClosedSigned 0 = .ok (.aload_n 0, 1) := by decide +kernel
theorem dX7_countClosedSigned_1 : decode cX7_countClosedSigned 1 = .ok (.aload_n 1, 1) := by decide +kernel
theorem dX7_countClosedSigned_2 : decode cX7_countClosedSigned 2 = .ok (.iconst 1, 1) := by decide +kernel
theorem dX7_countClosedSigned_3 : decode cX7_countClosedSigned 3 = .ok (.aload_n 0, 1) := by decide +kernel
theorem dX7_countClosedSigned_4 : decode cX7_countClosedSigned 4 = .ok (.getfield 15, 3) := by decide +kernel
theorem dX7_countClosedSigned_7 : decode cX7_countClosedSigned 7 = .ok (.invokevirtual 30, 3) := by decide +kernel
theorem dX7_countClosedSigned_10 : decode cX7_countClosedSigned 10 = .ok (.return_, 1) := by decide +kernel
theorem dX7_countPrimitive_0 : decode cX7_countPrimitive 0 = .ok (.aload_n 0, 1) := by decide +kernel
theorem dX7_countPrimitive_1 : decode cX7_countPrimitive 1 = .ok (.aload_n 1, 1) := by decide +kernel
theorem dX7_countPrimitive_2 : decode cX7_countPrimitive 2 = .ok (.invokevirtual 34, 3) := by decide +kernel
theorem dX7_countPrimitive_5 : decode cX7_countPrimitive 5 = .ok (.iconst 1, 1) := by decide +kernel
theorem dX7_countPrimitive_6 : decode cX7_countPrimitive 6 = .ok (.istore_n 2, 1) := by decide +kernel
theorem dX7_countPrimitive_7 : decode cX7_countPrimitive 7 = .ok (.iload_n 2, 1) := by decide +kernel
theorem dX7_countPrimitive_8 : decode cX7_countPrimitive 8 = .ok (.bipush 18, 2) := by decide +kernel
theorem dX7_countPrimitive_10 : decode cX7_countPrimitive 10 = .ok (.if_icmp .gt 55, 3) := by decide +kernel
theorem dX7_countPrimitive_13 : decode cX7_countPrimitive 13 = .ok (.aload_n 0, 1) := by decide +kernel
theorem dX7_countPrimitive_14 : decode cX7_countPrimitive 14 = .ok (.getfield 18, 3) := by decide +kernel
theorem dX7_countPrimitive_17 : decode cX7_countPrimitive 17 = .ok (.iload_n 2, 1) := by decide +kernel
theorem dX7_countPrimitive_18 : decode cX7_countPrimitive 18 = .ok (.aload_n 0, 1) := by decide +kernel
theorem dX7_countPrimitive_19 : decode cX7_countPrimitive 19 = .ok (.getfield 9, 3) := by decide +kernel
theorem dX7_countPrimitive_22 : decode cX7_countPrimitive 22 = .ok (.iload_n 2, 1) := by decide +kernel
theorem dX7_countPrimitive_23 : decode cX7_countPrimitive 23 = .ok (.laload, 1) := by decide +kernel
theorem dX7_countPrimitive_24 : decode cX7_countPrimitive 24 = .ok (.lastore, 1) := by decide +kernel
theorem dX7_countPrimitive_25 : decode cX7_countPrimitive 25 = .ok (.iconst 1, 1) := by decide +kernel
theorem dX7_countPrimitive_26 : decode cX7_countPrimitive 26 = .ok (.istore_n 3, 1) := by decide +kernel
theorem dX7_countPrimitive_27 : decode cX7_countPrimitive 27 = .ok (.iload_n 3, 1) := by decide +kernel
theorem dX7_countPrimitive_28 : decode cX7_countPrimitive 28 = .ok (.iload_n 2, 1) := by decide +kernel
theorem dX7_countPrimitive_29 : decode cX7_countPrimitive 29 = .ok (.if_icmp .ge 30, 3) := by decide +kernel
theorem dX7_countPrimitive_32 : decode cX7_countPrimitive 32 = .ok (.iload_n 2, 1) := by decide +kernel
theorem dX7_countPrimitive_33 : decode cX7_countPrimitive 33 = .ok (.iload_n 3, 1) := by decide +kernel
theorem dX7_countPrimitive_34 : decode cX7_countPrimitive 34 = .ok (.irem, 1) := by decide +kernel
theorem dX7_countPrimitive_35 : decode cX7_countPrimitive 35 = .ok (.ifCond .ne 18, 3) := by decide +kernel
theorem dX7_countPrimitive_38 : decode cX7_countPrimitive 38 = .ok (.aload_n 0, 1) := by decide +kernel
theorem dX7_countPrimitive_39 : decode cX7_countPrimitive 39 = .ok (.getfield 18, 3) := by decide +kernel
theorem dX7_countPrimitive_42 : decode cX7_countPrimitive 42 = .ok (.iload_n 2, 1) := by decide +kernel
theorem dX7_countPrimitive_43 : decode cX7_countPrimitive 43 = .ok (.dup2, 1) := by decide +kernel
theorem dX7_countPrimitive_44 : decode cX7_countPrimitive 44 = .ok (.laload, 1) := by decide +kernel
theorem dX7_countPrimitive_45 : decode cX7_countPrimitive 45 = .ok (.aload_n 0, 1) := by decide +kernel
theorem dX7_countPrimitive_46 : decode cX7_countPrimitive 46 = .ok (.getfield 18, 3) := by decide +kernel
theorem dX7_countPrimitive_49 : decode cX7_countPrimitive 49 = .ok (.iload_n 3, 1) := by decide +kernel
theorem dX7_countPrimitive_50 : decode cX7_countPrimitive 50 = .ok (.laload, 1) := by decide +kernel
theorem dX7_countPrimitive_51 : decode cX7_countPrimitive 51 = .ok (.lsub, 1) := by decide +kernel
theorem dX7_countPrimitive_52 : decode cX7_countPrimitive 52 = .ok (.lastore, 1) := by decide +kernel
theorem dX7_countPrimitive_53 : decode cX7_countPrimitive 53 = .ok (.iinc 3 1, 3) := by decide +kernel
theorem dX7_countPrimitive_56 : decode cX7_countPrimitive 56 = .ok (.goto (-29), 3) := by decide +kernel
theorem dX7_countPrimitive_59 : decode cX7_countPrimitive 59 = .ok (.iinc 2 1, 3) := by decide +kernel
theorem dX7_countPrimitive_62 : decode cX7_countPrimitive 62 = .ok (.goto (-55), 3) := by decide +kernel
theorem dX7_countPrimitive_65 : decode cX7_countPrimitive 65 = .ok (.return_, 1) := by decide +kernel
theorem dX7_countPrimitiveSigned_0 : decode cX7_countPrimitiveSigned 0 = .ok (.aload_n 0, 1) := by decide +kernel
theorem dX7_countPrimitiveSigned_1 : decode cX7_countPrimitiveSigned 1 = .ok (.aload_n 1, 1) := by decide +kernel
theorem dX7_countPrimitiveSigned_2 : decode cX7_countPrimitiveSigned 2 = .ok (.invokevirtual 38, 3) := by decide +kernel
theorem dX7_countPrimitiveSigned_5 : decode cX7_countPrimitiveSigned 5 = .ok (.aload_n 0, 1) := by decide +kernel
theorem dX7_countPrimitiveSigned_6 : decode cX7_countPrimitiveSigned 6 = .ok (.aload_n 1, 1) := by decide +kernel
theorem dX7_countPrimitiveSigned_7 : decode cX7_countPrimitiveSigned 7 = .ok (.invokevirtual 41, 3) := by decide +kernel
theorem dX7_countPrimitiveSigned_10 : decode cX7_countPrimitiveSigned 10 = .ok (.iconst 1, 1) := by decide +kernel
theorem dX7_countPrimitiveSigned_11 : decode cX7_countPrimitiveSigned 11 = .ok (.istore_n 2, 1) := by decide +kernel
theorem dX7_countPrimitiveSigned_12 : decode cX7_countPrimitiveSigned 12 = .ok (.iload_n 2, 1) := by decide +kernel
theorem dX7_countPrimitiveSigned_13 : decode cX7_countPrimitiveSigned 13 = .ok (.bipush 18, 2) := by decide +kernel
theorem dX7_countPrimitiveSigned_15 : decode cX7_countPrimitiveSigned 15 = .ok (.if_icmp .gt 84, 3) := by decide +kernel
theorem dX7_countPrimitiveSigned_18 : decode cX7_countPrimitiveSigned 18 = .ok (.aload_n 0, 1) := by decide +kernel
theorem dX7_countPrimitiveSigned_19 : decode cX7_countPrimitiveSigned 19 = .ok (.getfield 21, 3) := by decide +kernel
theorem dX7_countPrimitiveSigned_22 : decode cX7_countPrimitiveSigned 22 = .ok (.iload_n 2, 1) := by decide +kernel
theorem dX7_countPrimitiveSigned_23 : decode cX7_countPrimitiveSigned 23 = .ok (.aload_n 0, 1) := by decide +kernel
theorem dX7_countPrimitiveSigned_24 : decode cX7_countPrimitiveSigned 24 = .ok (.getfield 15, 3) := by decide +kernel
theorem dX7_countPrimitiveSigned_27 : decode cX7_countPrimitiveSigned 27 = .ok (.iload_n 2, 1) := by decide +kernel
theorem dX7_countPrimitiveSigned_28 : decode cX7_countPrimitiveSigned 28 = .ok (.laload, 1) := by decide +kernel
theorem dX7_countPrimitiveSigned_29 : decode cX7_countPrimitiveSigned 29 = .ok (.lastore, 1) := by decide +kernel
theorem dX7_countPrimitiveSigned_30 : decode cX7_countPrimitiveSigned 30 = .ok (.iconst 1, 1) := by decide +kernel
theorem dX7_countPrimitiveSigned_31 : decode cX7_countPrimitiveSigned 31 = .ok (.istore_n 3, 1) := by decide +kernel
theorem dX7_countPrimitiveSigned_32 : decode cX7_countPrimitiveSigned 32 = .ok (.iload_n 3, 1) := by decide +kernel
theorem dX7_countPrimitiveSigned_33 : decode cX7_countPrimitiveSigned 33 = .ok (.iload_n 2, 1) := by decide +kernel
theorem dX7_countPrimitiveSigned_34 : decode cX7_countPrimitiveSigned 34 = .ok (.if_icmp .ge 59, 3) := by decide +kernel
theorem dX7_countPrimitiveSigned_37 : decode cX7_countPrimitiveSigned 37 = .ok (.iload_n 2, 1) := by decide +kernel
theorem dX7_countPrimitiveSigned_38 : decode cX7_countPrimitiveSigned 38 = .ok (.iload_n 3, 1) := by decide +kernel
theorem dX7_countPrimitiveSigned_39 : decode cX7_countPrimitiveSigned 39 = .ok (.irem, 1) := by decide +kernel
theorem dX7_countPrimitiveSigned_40 : decode cX7_countPrimitiveSigned 40 = .ok (.ifCond .ne 47, 3) := by decide +kernel
theorem dX7_countPrimitiveSigned_43 : decode cX7_countPrimitiveSigned 43 = .ok (.iload_n 2, 1) := by decide +kernel
theorem dX7_countPrimitiveSigned_44 : decode cX7_countPrimitiveSigned 44 = .ok (.iload_n 3, 1) := by decide +kernel
theorem dX7_countPrimitiveSigned_45 : decode cX7_countPrimitiveSigned 45 = .ok (.idiv, 1) := by decide +kernel
theorem dX7_countPrimitiveSigned_46 : decode cX7_countPrimitiveSigned 46 = .ok (.iconst 2, 1) := by decide +kernel
theorem dX7_countPrimitiveSigned_47 : decode cX7_countPrimitiveSigned 47 = .ok (.irem, 1) := by decide +kernel
theorem dX7_countPrimitiveSigned_48 : decode cX7_countPrimitiveSigned 48 = .ok (.ifCond .ne 7, 3) := by decide +kernel
theorem dX7_countPrimitiveSigned_51 : decode cX7_countPrimitiveSigned 51 = .ok (.iconst 1, 1) := by decide +kernel
theorem dX7_countPrimitiveSigned_52 : decode cX7_countPrimitiveSigned 52 = .ok (.goto 4, 3) := by decide +kernel
theorem dX7_countPrimitiveSigned_55 : decode cX7_countPrimitiveSigned 55 = .ok (.iconst 0, 1) := by decide +kernel
theorem dX7_countPrimitiveSigned_56 : decode cX7_countPrimitiveSigned 56 = .ok (.istore 4, 2) := by decide +kernel
theorem dX7_countPrimitiveSigned_58 : decode cX7_countPrimitiveSigned 58 = .ok (.aload_n 0, 1) := by decide +kernel
theorem dX7_countPrimitiveSigned_59 : decode cX7_countPrimitiveSigned 59 = .ok (.getfield 21, 3) := by decide +kernel
theorem dX7_countPrimitiveSigned_62 : decode cX7_countPrimitiveSigned 62 = .ok (.iload_n 2, 1) := by decide +kernel
theorem dX7_countPrimitiveSigned_63 : decode cX7_countPrimitiveSigned 63 = .ok (.dup2, 1) := by decide +kernel
theorem dX7_countPrimitiveSigned_64 : decode cX7_countPrimitiveSigned 64 = .ok (.laload, 1) := by decide +kernel
theorem dX7_countPrimitiveSigned_65 : decode cX7_countPrimitiveSigned 65 = .ok (.iload 4, 2) := by decide +kernel
theorem dX7_countPrimitiveSigned_67 : decode cX7_countPrimitiveSigned 67 = .ok (.ifCond .eq 12, 3) := by decide +kernel
theorem dX7_countPrimitiveSigned_70 : decode cX7_countPrimitiveSigned 70 = .ok (.aload_n 0, 1) := by decide +kernel
theorem dX7_countPrimitiveSigned_71 : decode cX7_countPrimitiveSigned 71 = .ok (.getfield 18, 3) := by decide +kernel
theorem dX7_countPrimitiveSigned_74 : decode cX7_countPrimitiveSigned 74 = .ok (.iload_n 3, 1) := by decide +kernel
theorem dX7_countPrimitiveSigned_75 : decode cX7_countPrimitiveSigned 75 = .ok (.laload, 1) := by decide +kernel
theorem dX7_countPrimitiveSigned_76 : decode cX7_countPrimitiveSigned 76 = .ok (.goto 9, 3) := by decide +kernel
theorem dX7_countPrimitiveSigned_79 : decode cX7_countPrimitiveSigned 79 = .ok (.aload_n 0, 1) := by decide +kernel
theorem dX7_countPrimitiveSigned_80 : decode cX7_countPrimitiveSigned 80 = .ok (.getfield 21, 3) := by decide +kernel
theorem dX7_countPrimitiveSigned_83 : decode cX7_countPrimitiveSigned 83 = .ok (.iload_n 3, 1) := by decide +kernel
theorem dX7_countPrimitiveSigned_84 : decode cX7_countPrimitiveSigned 84 = .ok (.laload, 1) := by decide +kernel
theorem dX7_countPrimitiveSigned_85 : decode cX7_countPrimitiveSigned 85 = .ok (.lsub, 1) := by decide +kernel
theorem dX7_countPrimitiveSigned_86 : decode cX7_countPrimitiveSigned 86 = .ok (.lastore, 1) := by decide +kernel
theorem dX7_countPrimitiveSigned_87 : decode cX7_countPrimitiveSigned 87 = .ok (.iinc 3 1, 3) := by decide +kernel
theorem dX7_countPrimitiveSigned_90 : decode cX7_countPrimitiveSigned 90 = .ok (.goto (-58), 3) := by decide +kernel
theorem dX7_countPrimitiveSigned_93 : decode cX7_countPrimitiveSigned 93 = .ok (.iinc 2 1, 3) := by decide +kernel
theorem dX7_countPrimitiveSigned_96 : decode cX7_countPrimitiveSigned 96 = .ok (.goto (-84), 3) := by decide +kernel
theorem dX7_countPrimitiveSigned_99 : decode cX7_countPrimitiveSigned 99 = .ok (.return_, 1) := by decide +kernel
theorem dX7_addReturns_0 : decode cX7_addReturns 0 = .ok (.aload_n 3, 1) := by decide +kernel
theorem dX7_addReturns_1 : decode cX7_addReturns 1 = .ok (.lconst 0, 1) := by decide +kernel
theorem dX7_addReturns_2 : decode cX7_addReturns 2 = .ok (.invokestatic 44, 3) := by decide +kernel
theorem dX7_addReturns_5 : decode cX7_addReturns 5 = .ok (.iconst 0, 1) := by decide +kernel
theorem dX7_addReturns_6 : decode cX7_addReturns 6 = .ok (.istore 4, 2) := by decide +kernel
theorem dX7_addReturns_8 : decode cX7_addReturns 8 = .ok (.iload 4, 2) := by decide +kernel
theorem dX7_addReturns_10 : decode cX7_addReturns 10 = .ok (.aload_n 1, 1) := by decide +kernel
theorem dX7_addReturns_11 : decode cX7_addReturns 11 = .ok (.getfield 50, 3) := by decide +kernel
theorem dX7_addReturns_14 : decode cX7_addReturns 14 = .ok (.if_icmp .ge 71, 3) := by decide +kernel
theorem dX7_addReturns_17 : decode cX7_addReturns 17 = .ok (.iconst 2, 1) := by decide +kernel
theorem dX7_addReturns_18 : decode cX7_addReturns 18 = .ok (.iload 4, 2) := by decide +kernel
theorem dX7_addReturns_20 : decode cX7_addReturns 20 = .ok (.imul, 1) := by decide +kernel
theorem dX7_addReturns_21 : decode cX7_addReturns 21 = .ok (.istore 5, 2) := by decide +kernel
theorem dX7_addReturns_23 : decode cX7_addReturns 23 = .ok (.aload_n 0, 1) := by decide +kernel
theorem dX7_addReturns_24 : decode cX7_addReturns 24 = .ok (.getfield 24, 3) := by decide +kernel
theorem dX7_addReturns_27 : decode cX7_addReturns 27 = .ok (.lconst 0, 1) := by decide +kernel
theorem dX7_addReturns_28 : decode cX7_addReturns 28 = .ok (.invokestatic 44, 3) := by decide +kernel
theorem dX7_addReturns_31 : decode cX7_addReturns 31 = .ok (.aload_n 0, 1) := by decide +kernel
theorem dX7_addReturns_32 : decode cX7_addReturns 32 = .ok (.getfield 24, 3) := by decide +kernel
theorem dX7_addReturns_35 : decode cX7_addReturns 35 = .ok (.iload 5, 2) := by decide +kernel
theorem dX7_addReturns_37 : decode cX7_addReturns 37 = .ok (.lconst 1, 1) := by decide +kernel
theorem dX7_addReturns_38 : decode cX7_addReturns 38 = .ok (.lastore, 1) := by decide +kernel
theorem dX7_addReturns_39 : decode cX7_addReturns 39 = .ok (.iconst 1, 1) := by decide +kernel
theorem dX7_addReturns_40 : decode cX7_addReturns 40 = .ok (.istore 6, 2) := by decide +kernel
theorem dX7_addReturns_42 : decode cX7_addReturns 42 = .ok (.iload 6, 2) := by decide +kernel
theorem dX7_addReturns_44 : decode cX7_addReturns 44 = .ok (.bipush 18, 2) := by decide +kernel
theorem dX7_addReturns_46 : decode cX7_addReturns 46 = .ok (.if_icmp .gt 33, 3) := by decide +kernel
theorem dX7_addReturns_49 : decode cX7_addReturns 49 = .ok (.aload_n 0, 1) := by decide +kernel
theorem dX7_addReturns_50 : decode cX7_addReturns 50 = .ok (.aload_n 1, 1) := by decide +kernel
theorem dX7_addReturns_51 : decode cX7_addReturns 51 = .ok (.iload_n 2, 1) := by decide +kernel
theorem dX7_addReturns_52 : decode cX7_addReturns 52 = .ok (.invokevirtual 56, 3) := by decide +kernel
theorem dX7_addReturns_55 : decode cX7_addReturns 55 = .ok (.aload_n 3, 1) := by decide +kernel
theorem dX7_addReturns_56 : decode cX7_addReturns 56 = .ok (.iload 6, 2) := by decide +kernel
theorem dX7_addReturns_58 : decode cX7_addReturns 58 = .ok (.dup2, 1) := by decide +kernel
theorem dX7_addReturns_59 : decode cX7_addReturns 59 = .ok (.laload, 1) := by decide +kernel
theorem dX7_addReturns_60 : decode cX7_addReturns 60 = .ok (.ldc2_w 60, 3) := by decide +kernel
theorem dX7_addReturns_63 : decode cX7_addReturns 63 = .ok (.aload_n 0, 1) := by decide +kernel
theorem dX7_addReturns_64 : decode cX7_addReturns 64 = .ok (.getfield 24, 3) := by decide +kernel
theorem dX7_addReturns_67 : decode cX7_addReturns 67 = .ok (.iload 5, 2) := by decide +kernel
theorem dX7_addReturns_69 : decode cX7_addReturns 69 = .ok (.laload, 1) := by decide +kernel
theorem dX7_addReturns_70 : decode cX7_addReturns 70 = .ok (.lmul, 1) := by decide +kernel
theorem dX7_addReturns_71 : decode cX7_addReturns 71 = .ok (.ladd, 1) := by decide +kernel
theorem dX7_addReturns_72 : decode cX7_addReturns 72 = .ok (.lastore, 1) := by decide +kernel
theorem dX7_addReturns_73 : decode cX7_addReturns 73 = .ok (.iinc 6 1, 3) := by decide +kernel
theorem dX7_addReturns_76 : decode cX7_addReturns 76 = .ok (.goto (-34), 3) := by decide +kernel
theorem dX7_addReturns_79 : decode cX7_addReturns 79 = .ok (.iinc 4 1, 3) := by decide +kernel
theorem dX7_addReturns_82 : decode cX7_addReturns 82 = .ok (.goto (-74), 3) := by decide +kernel
theorem dX7_addReturns_85 : decode cX7_addReturns 85 = .ok (.return_, 1) := by decide +kernel
theorem dX7_goOn_0 : decode cX7_goOn 0 = .ok (.aload_n 0, 1) := by decide +kernel
theorem dX7_goOn_1 : decode cX7_goOn 1 = .ok (.getfield 27, 3) := by decide +kernel
theorem dX7_goOn_4 : decode cX7_goOn 4 = .ok (.lconst 0, 1) := by decide +kernel
theorem dX7_goOn_5 : decode cX7_goOn 5 = .ok (.invokestatic 44, 3) := by decide +kernel
theorem dX7_goOn_8 : decode cX7_goOn 8 = .ok (.iconst 0, 1) := by decide +kernel
theorem dX7_goOn_9 : decode cX7_goOn 9 = .ok (.istore_n 3, 1) := by decide +kernel
theorem dX7_goOn_10 : decode cX7_goOn 10 = .ok (.iload_n 3, 1) := by decide +kernel
theorem dX7_goOn_11 : decode cX7_goOn 11 = .ok (.iconst 2, 1) := by decide +kernel
theorem dX7_goOn_12 : decode cX7_goOn 12 = .ok (.aload_n 1, 1) := by decide +kernel
theorem dX7_goOn_13 : decode cX7_goOn 13 = .ok (.getfield 50, 3) := by decide +kernel
theorem dX7_goOn_16 : decode cX7_goOn 16 = .ok (.imul, 1) := by decide +kernel
theorem dX7_goOn_17 : decode cX7_goOn 17 = .ok (.if_icmp .ge 28, 3) := by decide +kernel
theorem dX7_goOn_20 : decode cX7_goOn 20 = .ok (.aload_n 0, 1) := by decide +kernel
theorem dX7_goOn_21 : decode cX7_goOn 21 = .ok (.getfield 27, 3) := by decide +kernel
theorem dX7_goOn_24 : decode cX7_goOn 24 = .ok (.aload_n 1, 1) := by decide +kernel
theorem dX7_goOn_25 : decode cX7_goOn 25 = .ok (.iload_n 3, 1) := by decide +kernel
theorem dX7_goOn_26 : decode cX7_goOn 26 = .ok (.invokevirtual 62, 3) := by decide +kernel
theorem dX7_goOn_29 : decode cX7_goOn 29 = .ok (.dup2, 1) := by decide +kernel
theorem dX7_goOn_30 : decode cX7_goOn 30 = .ok (.laload, 1) := by decide +kernel
theorem dX7_goOn_31 : decode cX7_goOn 31 = .ok (.aload_n 0, 1) := by decide +kernel
theorem dX7_goOn_32 : decode cX7_goOn 32 = .ok (.getfield 24, 3) := by decide +kernel
theorem dX7_goOn_35 : decode cX7_goOn 35 = .ok (.iload_n 3, 1) := by decide +kernel
theorem dX7_goOn_36 : decode cX7_goOn 36 = .ok (.laload, 1) := by decide +kernel
theorem dX7_goOn_37 : decode cX7_goOn 37 = .ok (.ladd, 1) := by decide +kernel
theorem dX7_goOn_38 : decode cX7_goOn 38 = .ok (.lastore, 1) := by decide +kernel
theorem dX7_goOn_39 : decode cX7_goOn 39 = .ok (.iinc 3 1, 3) := by decide +kernel
theorem dX7_goOn_42 : decode cX7_goOn 42 = .ok (.goto (-32), 3) := by decide +kernel
theorem dX7_goOn_45 : decode cX7_goOn 45 = .ok (.iconst 0, 1) := by decide +kernel
theorem dX7_goOn_46 : decode cX7_goOn 46 = .ok (.istore_n 3, 1) := by decide +kernel
theorem dX7_goOn_47 : decode cX7_goOn 47 = .ok (.iload_n 3, 1) := by decide +kernel
theorem dX7_goOn_48 : decode cX7_goOn 48 = .ok (.aload_n 1, 1) := by decide +kernel
theorem dX7_goOn_49 : decode cX7_goOn 49 = .ok (.getfield 50, 3) := by decide +kernel
theorem dX7_goOn_52 : decode cX7_goOn 52 = .ok (.if_icmp .ge 104, 3) := by decide +kernel
theorem dX7_goOn_55 : decode cX7_goOn 55 = .ok (.iconst 2, 1) := by decide +kernel
theorem dX7_goOn_56 : decode cX7_goOn 56 = .ok (.iload_n 3, 1) := by decide +kernel
theorem dX7_goOn_57 : decode cX7_goOn 57 = .ok (.imul, 1) := by decide +kernel
theorem dX7_goOn_58 : decode cX7_goOn 58 = .ok (.istore 4, 2) := by decide +kernel
theorem dX7_goOn_60 : decode cX7_goOn 60 = .ok (.iconst 2, 1) := by decide +kernel
theorem dX7_goOn_61 : decode cX7_goOn 61 = .ok (.iload_n 3, 1) := by decide +kernel
theorem dX7_goOn_62 : decode cX7_goOn 62 = .ok (.imul, 1) := by decide +kernel
theorem dX7_goOn_63 : decode cX7_goOn 63 = .ok (.iconst 1, 1) := by decide +kernel
theorem dX7_goOn_64 : decode cX7_goOn 64 = .ok (.iadd, 1) := by decide +kernel
theorem dX7_goOn_65 : decode cX7_goOn 65 = .ok (.istore 5, 2) := by decide +kernel
theorem dX7_goOn_67 : decode cX7_goOn 67 = .ok (.iload_n 2, 1) := by decide +kernel
theorem dX7_goOn_68 : decode cX7_goOn 68 = .ok (.ifCond .eq 13, 3) := by decide +kernel
theorem dX7_goOn_71 : decode cX7_goOn 71 = .ok (.aload_n 1, 1) := by decide +kernel
theorem dX7_goOn_72 : decode cX7_goOn 72 = .ok (.getfield 66, 3) := by decide +kernel
theorem dX7_goOn_75 : decode cX7_goOn 75 = .ok (.iload_n 3, 1) := by decide +kernel
theorem dX7_goOn_76 : decode cX7_goOn 76 = .ok (.iaload, 1) := by decide +kernel
theorem dX7_goOn_77 : decode cX7_goOn 77 = .ok (.i2l, 1) := by decide +kernel
theorem dX7_goOn_78 : decode cX7_goOn 78 = .ok (.goto 4, 3) := by decide +kernel
theorem dX7_goOn_81 : decode cX7_goOn 81 = .ok (.lconst 1, 1) := by decide +kernel
theorem dX7_goOn_82 : decode cX7_goOn 82 = .ok (.lstore 6, 2) := by decide +kernel
theorem dX7_goOn_84 : decode cX7_goOn 84 = .ok (.aload_n 0, 1) := by decide +kernel
theorem dX7_goOn_85 : decode cX7_goOn 85 = .ok (.getfield 27, 3) := by decide +kernel
theorem dX7_goOn_88 : decode cX7_goOn 88 = .ok (.aload_n 1, 1) := by decide +kernel
theorem dX7_goOn_89 : decode cX7_goOn 89 = .ok (.iload 4, 2) := by decide +kernel
theorem dX7_goOn_91 : decode cX7_goOn 91 = .ok (.invokevirtual 70, 3) := by decide +kernel
theorem dX7_goOn_94 : decode cX7_goOn 94 = .ok (.laload, 1) := by decide +kernel
theorem dX7_goOn_95 : decode cX7_goOn 95 = .ok (.aload_n 0, 1) := by decide +kernel
theorem dX7_goOn_96 : decode cX7_goOn 96 = .ok (.getfield 24, 3) := by decide +kernel
theorem dX7_goOn_99 : decode cX7_goOn 99 = .ok (.iload 5, 2) := by decide +kernel
theorem dX7_goOn_101 : decode cX7_goOn 101 = .ok (.laload, 1) := by decide +kernel
theorem dX7_goOn_102 : decode cX7_goOn 102 = .ok (.lsub, 1) := by decide +kernel
theorem dX7_goOn_103 : decode cX7_goOn 103 = .ok (.lstore 8, 2) := by decide +kernel
theorem dX7_goOn_105 : decode cX7_goOn 105 = .ok (.aload_n 0, 1) := by decide +kernel
theorem dX7_goOn_106 : decode cX7_goOn 106 = .ok (.getfield 27, 3) := by decide +kernel
theorem dX7_goOn_109 : decode cX7_goOn 109 = .ok (.aload_n 1, 1) := by decide +kernel
theorem dX7_goOn_110 : decode cX7_goOn 110 = .ok (.iload 5, 2) := by decide +kernel
theorem dX7_goOn_112 : decode cX7_goOn 112 = .ok (.invokevirtual 70, 3) := by decide +kernel
theorem dX7_goOn_115 : decode cX7_goOn 115 = .ok (.laload, 1) := by decide +kernel
theorem dX7_goOn_116 : decode cX7_goOn 116 = .ok (.aload_n 0, 1) := by decide +kernel
theorem dX7_goOn_117 : decode cX7_goOn 117 = .ok (.getfield 24, 3) := by decide +kernel
theorem dX7_goOn_120 : decode cX7_goOn 120 = .ok (.iload 4, 2) := by decide +kernel
theorem dX7_goOn_122 : decode cX7_goOn 122 = .ok (.laload, 1) := by decide +kernel
theorem dX7_goOn_123 : decode cX7_goOn 123 = .ok (.lsub, 1) := by decide +kernel
theorem dX7_goOn_124 : decode cX7_goOn 124 = .ok (.lstore 10, 2) := by decide +kernel
theorem dX7_goOn_126 : decode cX7_goOn 126 = .ok (.aload_n 0, 1) := by decide +kernel
theorem dX7_goOn_127 : decode cX7_goOn 127 = .ok (.getfield 24, 3) := by decide +kernel
theorem dX7_goOn_130 : decode cX7_goOn 130 = .ok (.iload 4, 2) := by decide +kernel
theorem dX7_goOn_132 : decode cX7_goOn 132 = .ok (.lload 6, 2) := by decide +kernel
theorem dX7_goOn_134 : decode cX7_goOn 134 = .ok (.lload 8, 2) := by decide +kernel
theorem dX7_goOn_136 : decode cX7_goOn 136 = .ok (.lmul, 1) := by decide +kernel
theorem dX7_goOn_137 : decode cX7_goOn 137 = .ok (.lastore, 1) := by decide +kernel
theorem dX7_goOn_138 : decode cX7_goOn 138 = .ok (.aload_n 0, 1) := by decide +kernel
theorem dX7_goOn_139 : decode cX7_goOn 139 = .ok (.getfield 24, 3) := by decide +kernel
theorem dX7_goOn_142 : decode cX7_goOn 142 = .ok (.iload 5, 2) := by decide +kernel
theorem dX7_goOn_144 : decode cX7_goOn 144 = .ok (.lload 6, 2) := by decide +kernel
theorem dX7_goOn_146 : decode cX7_goOn 146 = .ok (.lload 10, 2) := by decide +kernel
theorem dX7_goOn_148 : decode cX7_goOn 148 = .ok (.lmul, 1) := by decide +kernel
theorem dX7_goOn_149 : decode cX7_goOn 149 = .ok (.lastore, 1) := by decide +kernel
theorem dX7_goOn_150 : decode cX7_goOn 150 = .ok (.iinc 3 1, 3) := by decide +kernel
theorem dX7_goOn_153 : decode cX7_goOn 153 = .ok (.goto (-106), 3) := by decide +kernel
theorem dX7_goOn_156 : decode cX7_goOn 156 = .ok (.return_, 1) := by decide +kernel
end
section
theorem dX8_init_0 : decode cX8_init 0 = .ok (.aload_n 0, 1) := by decide +kernel
theorem dX8_init_1 : decode cX8_init 1 = .ok (.invokespecial 3, 3) := by decide +kernel
theorem dX8_init_4 : decode cX8_init 4 = .ok (.aload_n 0, 1) := by decide +kernel
theorem dX8_init_5 : decode cX8_init 5 = .ok (.new 9, 3) := by decide +kernel
theorem dX8_init_8 : decode cX8_init 8 = .ok (.dup, 1) := by decide +kernel
theorem dX8_init_9 : decode cX8_init 9 = .ok (.invokespecial 11, 3) := by decide +kernel
theorem dX8_init_12 : decode cX8_init 12 = .ok (.putfield 12, 3) := by decide +kernel
theorem dX8_init_15 : decode cX8_init 15 = .ok (.aload_n 0, 1) := by decide +kernel
theorem dX8_init_16 : decode cX8_init 16 = .ok (.new 9, 3) := by decide +kernel
theorem dX8_init_19 : decode cX8_init 19 = .ok (.dup, 1) := by decide +kernel
theorem dX8_init_20 : decode cX8_init 20 = .ok (.invokespecial 11, 3) := by decide +kernel
theorem dX8_init_23 : decode cX8_init 23 = .ok (.putfield 18, 3) := by decide +kernel
theorem dX8_init_26 : decode cX8_init 26 = .ok (.aload_n 0, 1) := by decide +kernel
theorem dX8_init_27 : decode cX8_init 27 = .ok (.new 21, 3) := by decide +kernel
theorem dX8_init_30 : decode cX8_init 30 = .ok (.dup, 1) := by decide +kernel
theorem dX8_init_31 : decode cX8_init 31 = .ok (.invokespecial 23, 3) := by decide +kernel
theorem dX8_init_34 : decode cX8_init 34 = .ok (.putfield 24, 3) := by decide +kernel
theorem dX8_init_37 : decode cX8_init 37 = .ok (.aload_n 0, 1) := by decide +kernel
theorem dX8_init_38 : decode cX8_init 38 = .ok (.new 28, 3) := by decide +kernel
theorem dX8_init_41 : decode cX8_init 41 = .ok (.dup, 1) := by decide +kernel
theorem dX8_init_42 : decode cX8_init 42 = .ok (.invokespecial 30, 3) := by decide +kernel
theorem dX8_init_45 : decode cX8_init 45 = .ok (.putfield 31, 3) := by decide +kernel
theorem dX8_init_48 : decode cX8_init 48 = .ok (.aload_n 0, 1) := by decide +kernel
theorem dX8_init_49 : decode cX8_init 49 = .ok (.new 35, 3) := by decide +kernel
theorem dX8_init_52 : decode cX8_init 52 = .ok (.dup, 1) := by decide +kernel
theorem dX8_init_53 : decode cX8_init 53 = .ok (.invokespecial 37, 3) := by decide +kernel
theorem dX8_init_56 : decode cX8_init 56 = .ok (.putfield 38, 3) := by decide +kernel
theorem dX8_init_59 : decode cX8_init 59 = .ok (.aload_n 0, 1) := by decide +kernel
theorem dX8_init_60 : decode cX8_init 60 = .ok (.new 42, 3) := by decide +kernel
theorem dX8_init_63 : decode cX8_init 63 = .ok (.dup, 1) := by decide +kernel
theorem dX8_init_64 : decode cX8_init 64 = .ok (.invokespecial 44, 3) := by decide +kernel
theorem dX8_init_67 : decode cX8_init 67 = .ok (.putfield 45, 3) := by decide +kernel
theorem dX8_init_70 : decode cX8_init 70 = .ok (.aload_n 0, 1) := by decide +kernel
theorem dX8_init_71 : decode cX8_init 71 = .ok (.new 49, 3) := by decide +kernel
theorem dX8_init_74 : decode cX8_init 74 = .ok (.dup, 1) := by decide +kernel
theorem dX8_init_75 : decode cX8_init 75 = .ok (.invokespecial 51, 3) := by decide +kernel
theorem dX8_init_78 : decode cX8_init 78 = .ok (.putfield 52, 3) := by decide +kernel
theorem dX8_init_81 : decode cX8_init 81 = .ok (.aload_n 0, 1) := by decide +kernel
theorem dX8_init_82 : decode cX8_init 82 = .ok (.new 56, 3) := by decide +kernel
theorem dX8_init_85 : decode cX8_init 85 = .ok (.dup, 1) := by decide +kernel
theorem dX8_init_86 : decode cX8_init 86 = .ok (.invokespecial 58, 3) := by decide +kernel
theorem dX8_init_89 : decode cX8_init 89 = .ok (.putfield 59, 3) := by decide +kernel
theorem dX8_init_92 : decode cX8_init 92 = .ok (.aload_n 0, 1) := by decide +kernel
theorem dX8_init_93 : decode cX8_init 93 = .ok (.new 63, 3) := by decide +kernel
theorem dX8_init_96 : decode cX8_init 96 = .ok (.dup, 1) := by decide +kernel
theorem dX8_init_97 : decode cX8_init 97 = .ok (.invokespecial 65, 3) := by decide +kernel
theorem dX8_init_100 : decode cX8_init 100 = .ok (.putfield 66, 3) := by decide +kernel
theorem dX8_init_103 : decode cX8_init 103 = .ok (.return_, 1) := by decide +kernel
theorem dX8_configure_0 : decode cX8_configure 0 = .ok (.iload_n 1, 1) := by decide +kernel
theorem dX8_configure_1 : decode cX8_configure 1 = .ok (.iconst 1, 1) := by decide +kernel
theorem dX8_configure_2 : decode cX8_configure 2 = .ok (.if_icmp .lt 9, 3) := by decide +kernel
theorem dX8_configure_5 : decode cX8_configure 5 = .ok (.iload_n 1, 1) := by decide +kernel
theorem dX8_configure_6 : decode cX8_configure 6 = .ok (.bipush 6, 2) := by decide +kernel
theorem dX8_configure_8 : decode cX8_configure 8 = .ok (.if_icmp .le 5, 3) := by decide +kernel
theorem dX8_configure_11 : decode cX8_configure 11 = .ok (.iconst (-1), 1) := by decide +kernel
theorem dX8_configure_12 : decode cX8_configure 12 = .ok (.ireturn, 1) := by decide +kernel
theorem dX8_configure_13 : decode cX8_configure 13 = .ok (.aload_n 0, 1) := by decide +kernel
theorem dX8_configure_14 : decode cX8_configure 14 = .ok (.getfield 12, 3) := by decide +kernel
theorem dX8_configure_17 : decode cX8_configure 17 = .ok (.getfield 70, 3) := by decide +kernel
theorem dX8_configure_20 : decode cX8_configure 20 = .ok (.istore_n 2, 1) := by decide +kernel
theorem dX8_configure_21 : decode cX8_configure 21 = .ok (.aload_n 0, 1) := by decide +kernel
theorem dX8_configure_22 : decode cX8_configure 22 = .ok (.getfield 24, 3) := by decide +kernel
theorem dX8_configure_25 : decode cX8_configure 25 = .ok (.aload_n 0, 1) := by decide +kernel
theorem dX8_configure_26 : decode cX8_configure 26 = .ok (.getfield 12, 3) := by decide +kernel
theorem dX8_configure_29 : decode cX8_configure 29 = .ok (.invokevirtual 74, 3) := by decide +kernel
theorem dX8_configure_32 : decode cX8_configure 32 = .ok (.aload_n 0, 1) := by decide +kernel
theorem dX8_configure_33 : decode cX8_configure 33 = .ok (.getfield 12, 3) := by decide +kernel
theorem dX8_configure_36 : decode cX8_configure 36 = .ok (.iload_n 1, 1) := by decide +kernel
theorem dX8_configure_37 : decode cX8_configure 37 = .ok (.invokevirtual 78, 3) := by decide +kernel
theorem dX8_configure_40 : decode cX8_configure 40 = .ok (.iload_n 2, 1) := by decide +kernel
theorem dX8_configure_41 : decode cX8_configure 41 = .ok (.ireturn, 1) := by decide +kernel
theorem dX8_addEdge_0 : decode cX8_addEdge 0 = .ok (.aload_n 0, 1) := by decide +kernel
theorem dX8_addEdge_1 : decode cX8_addEdge 1 = .ok (.getfield 12, 3) := by decide +kernel
theorem dX8_addEdge_4 : decode cX8_addEdge 4 = .ok (.iload_n 1, 1) := by decide +kernel
theorem dX8_addEdge_5 : decode cX8_addEdge 5 = .ok (.invokevirtual 82, 3) := by decide +kernel
theorem dX8_addEdge_8 : decode cX8_addEdge 8 = .ok (.ifCond .eq 19, 3) := by decide +kernel
theorem dX8_addEdge_11 : decode cX8_addEdge 11 = .ok (.aload_n 0, 1) := by decide +kernel
theorem dX8_addEdge_12 : decode cX8_addEdge 12 = .ok (.getfield 12, 3) := by decide +kernel
theorem dX8_addEdge_15 : decode cX8_addEdge 15 = .ok (.iload_n 2, 1) := by decide +kernel
theorem dX8_addEdge_16 : decode cX8_addEdge 16 = .ok (.invokevirtual 82, 3) := by decide +kernel
theorem dX8_addEdge_19 : decode cX8_addEdge 19 = .ok (.ifCond .eq 8, 3) := by decide +kernel
theorem dX8_addEdge_22 : decode cX8_addEdge 22 = .ok (.iload_n 1, 1) := by decide +kernel
theorem dX8_addEdge_23 : decode cX8_addEdge 23 = .ok (.iload_n 2, 1) := by decide +kernel
theorem dX8_addEdge_24 : decode cX8_addEdge 24 = .ok (.if_icmp .ne 5, 3) := by decide +kernel
theorem dX8_addEdge_27 : decode cX8_addEdge 27 = .ok (.iconst (-1), 1) := by decide +kernel
theorem dX8_addEdge_28 : decode cX8_addEdge 28 = .ok (.ireturn, 1) := by decide +kernel
theorem dX8_addEdge_29 : decode cX8_addEdge 29 = .ok (.iload_n 3, 1) := by decide +kernel
theorem dX8_addEdge_30 : decode cX8_addEdge 30 = .ok (.iconst 1, 1) := by decide +kernel
theorem dX8_addEdge_31 : decode cX8_addEdge 31 = .ok (.if_icmp .eq 10, 3) := by decide +kernel
theorem dX8_addEdge_34 : decode cX8_addEdge 34 = .ok (.iload_n 3, 1) := by decide +kernel
theorem dX8_addEdge_35 : decode cX8_addEdge 35 = .ok (.iconst (-1), 1) := by decide +kernel
theorem dX8_addEdge_36 : decode cX8_addEdge 36 = .ok (.if_icmp .eq 5, 3) := by decide +kernel
theorem dX8_addEdge_39 : decode cX8_addEdge 39 = .ok (.iconst (-1), 1) := by decide +kernel
theorem dX8_addEdge_40 : decode cX8_addEdge 40 = .ok (.ireturn, 1) := by decide +kernel
theorem dX8_addEdge_41 : decode cX8_addEdge 41 = .ok (.aload_n 0, 1) := by decide +kernel
theorem dX8_addEdge_42 : decode cX8_addEdge 42 = .ok (.getfield 12, 3) := by decide +kernel
theorem dX8_addEdge_45 : decode cX8_addEdge 45 = .ok (.invokevirtual 86, 3) := by decide +kernel
theorem dX8_addEdge_48 : decode cX8_addEdge 48 = .ok (.ifCond .eq 6, 3) := by decide +kernel
theorem dX8_addEdge_51 : decode cX8_addEdge 51 = .ok (.bipush (-3), 2) := by decide +kernel
theorem dX8_addEdge_53 : decode cX8_addEdge 53 = .ok (.ireturn, 1) := by decide +kernel
theorem dX8_addEdge_54 : decode cX8_addEdge 54 = .ok (.aload_n 0, 1) := by decide +kernel
theorem dX8_addEdge_55 : decode cX8_addEdge 55 = .ok (.getfield 24, 3) := by decide +kernel
theorem dX8_addEdge_58 : decode cX8_addEdge 58 = .ok (.aload_n 0, 1) := by decide +kernel
theorem dX8_addEdge_59 : decode cX8_addEdge 59 = .ok (.getfield 12, 3) := by decide +kernel
theorem dX8_addEdge_62 : decode cX8_addEdge 62 = .ok (.invokevirtual 74, 3) := by decide +kernel
theorem dX8_addEdge_65 : decode cX8_addEdge 65 = .ok (.aload_n 0, 1) := by decide +kernel
theorem dX8_addEdge_66 : decode cX8_addEdge 66 = .ok (.getfield 12, 3) := by decide +kernel
theorem dX8_addEdge_69 : decode cX8_addEdge 69 = .ok (.iload_n 1, 1) := by decide +kernel
theorem dX8_addEdge_70 : decode cX8_addEdge 70 = .ok (.iload_n 2, 1) := by decide +kernel
theorem dX8_addEdge_71 : decode cX8_addEdge 71 = .ok (.iload_n 3, 1) := by decide +kernel
theorem dX8_addEdge_72 : decode cX8_addEdge 72 = .ok (.invokevirtual 90, 3) := by decide +kernel
theorem dX8_addEdge_75 : decode cX8_addEdge 75 = .ok (.aload_n 0, 1) := by decide +kernel
theorem dX8_addEdge_76 : decode cX8_addEdge 76 = .ok (.getfield 12, 3) := by decide +kernel
theorem dX8_addEdge_79 : decode cX8_addEdge 79 = .ok (.getfield 94, 3) := by decide +kernel
theorem dX8_addEdge_82 : decode cX8_addEdge 82 = .ok (.iconst 1, 1) := by decide +kernel
theorem dX8_addEdge_83 : decode cX8_addEdge 83 = .ok (.isub, 1) := by decide +kernel
theorem dX8_addEdge_84 : decode cX8_addEdge 84 = .ok (.ireturn, 1) := by decide +kernel
theorem dX8_removeEdge_0 : decode cX8_removeEdge 0 = .ok (.aload_n 0, 1) := by decide +kernel
theorem dX8_removeEdge_1 : decode cX8_removeEdge 1 = .ok (.getfield 12, 3) := by decide +kernel
theorem dX8_removeEdge_4 : decode cX8_removeEdge 4 = .ok (.iload_n 1, 1) := by decide +kernel
theorem dX8_removeEdge_5 : decode cX8_removeEdge 5 = .ok (.invokevirtual 97, 3) := by decide +kernel
theorem dX8_removeEdge_8 : decode cX8_removeEdge 8 = .ok (.ifCond .ne 5, 3) := by decide +kernel
theorem dX8_removeEdge_11 : decode cX8_removeEdge 11 = .ok (.iconst (-1), 1) := by decide +kernel
theorem dX8_removeEdge_12 : decode cX8_removeEdge 12 = .ok (.ireturn, 1) := by decide +kernel
theorem dX8_removeEdge_13 : decode cX8_removeEdge 13 = .ok (.aload_n 0, 1) := by decide +kernel
theorem dX8_removeEdge_14 : decode cX8_removeEdge 14 = .ok (.getfield 24, 3) := by decide +kernel
theorem dX8_removeEdge_17 : decode cX8_removeEdge 17 = .ok (.aload_n 0, 1) := by decide +kernel
theorem dX8_removeEdge_18 : decode cX8_removeEdge 18 = .ok (.getfield 12, 3) := by decide +kernel
theorem dX8_removeEdge_21 : decode cX8_removeEdge 21 = .ok (.invokevirtual 74, 3) := by decide +kernel
theorem dX8_removeEdge_24 : decode cX8_removeEdge 24 = .ok (.aload_n 0, 1) := by decide +kernel
theorem dX8_removeEdge_25 : decode cX8_removeEdge 25 = .ok (.getfield 12, 3) := by decide +kernel
theorem dX8_removeEdge_28 : decode cX8_removeEdge 28 = .ok (.iload_n 1, 1) := by decide +kernel
theorem dX8_removeEdge_29 : decode cX8_removeEdge 29 = .ok (.invokevirtual 100, 3) := by decide +kernel
theorem dX8_removeEdge_32 : decode cX8_removeEdge 32 = .ok (.aload_n 0, 1) := by decide +kernel
theorem dX8_removeEdge_33 : decode cX8_removeEdge 33 = .ok (.getfield 12, 3) := by decide +kernel
theorem dX8_removeEdge_36 : decode cX8_removeEdge 36 = .ok (.getfield 94, 3) := by decide +kernel
theorem dX8_removeEdge_39 : decode cX8_removeEdge 39 = .ok (.ireturn, 1) := by decide +kernel
theorem dX8_flipSign_0 : decode cX8_flipSign 0 = .ok (.aload_n 0, 1) := by decide +kernel
theorem dX8_flipSign_1 : decode cX8_flipSign 1 = .ok (.getfield 12, 3) := by decide +kernel
theorem dX8_flipSign_4 : decode cX8_flipSign 4 = .ok (.iload_n 1, 1) := by decide +kernel
theorem dX8_flipSign_5 : decode cX8_flipSign 5 = .ok (.invokevirtual 97, 3) := by decide +kernel
theorem dX8_flipSign_8 : decode cX8_flipSign 8 = .ok (.ifCond .ne 5, 3) := by decide +kernel
theorem dX8_flipSign_11 : decode cX8_flipSign 11 = .ok (.iconst 0, 1) := by decide +kernel
theorem dX8_flipSign_12 : decode cX8_flipSign 12 = .ok (.ireturn, 1) := by decide +kernel
theorem dX8_flipSign_13 : decode cX8_flipSign 13 = .ok (.aload_n 0, 1) := by decide +kernel
theorem dX8_flipSign_14 : decode cX8_flipSign 14 = .ok (.getfield 24, 3) := by decide +kernel
theorem dX8_flipSign_17 : decode cX8_flipSign 17 = .ok (.aload_n 0, 1) := by decide +kernel
theorem dX8_flipSign_18 : decode cX8_flipSign 18 = .ok (.getfield 12, 3) := by decide +kernel
theorem dX8_flipSign_21 : decode cX8_flipSign 21 = .ok (.invokevirtual 74, 3) := by decide +kernel
theorem dX8_flipSign_24 : decode cX8_flipSign 24 = .ok (.aload_n 0, 1) := by decide +kernel
theorem dX8_flipSign_25 : decode cX8_flipSign 25 = .ok (.getfield 12, 3) := by decide +kernel
theorem dX8_flipSign_28 : decode cX8_flipSign 28 = .ok (.getfield 103, 3) := by decide +kernel
theorem dX8_flipSign_31 : decode cX8_flipSign 31 = .ok (.iload_n 1, 1) := by decide +kernel
theorem dX8_flipSign_32 : decode cX8_flipSign 32 = .ok (.aload_n 0, 1) := by decide +kernel
theorem dX8_flipSign_33 : decode cX8_flipSign 33 = .ok (.getfield 12, 3) := by decide +kernel
theorem dX8_flipSign_36 : decode cX8_flipSign 36 = .ok (.getfield 103, 3) := by decide +kernel
theorem dX8_flipSign_39 : decode cX8_flipSign 39 = .ok (.iload_n 1, 1) := by decide +kernel
theorem dX8_flipSign_40 : decode cX8_flipSign 40 = .ok (.iaload, 1) := by decide +kernel
theorem dX8_flipSign_41 : decode cX8_flipSign 41 = .ok (.ineg, 1) := by decide +kernel
theorem dX8_flipSign_42 : decode cX8_flipSign 42 = .ok (.iastore, 1) := by decide +kernel
theorem dX8_flipSign_43 : decode cX8_flipSign 43 = .ok (.aload_n 0, 1) := by decide +kernel
theorem dX8_flipSign_44 : decode cX8_flipSign 44 = .ok (.getfield 12, 3) := by decide +kernel
theorem dX8_flipSign_47 : decode cX8_flipSign 47 = .ok (.getfield 103, 3) := by decide +kernel
theorem dX8_flipSign_50 : decode cX8_flipSign 50 = .ok (.iload_n 1, 1) := by decide +kernel
theorem dX8_flipSign_51 : decode cX8_flipSign 51 = .ok (.iaload, 1) := by decide +kernel
theorem dX8_flipSign_52 : decode cX8_flipSign 52 = .ok (.ireturn, 1) := by decide +kernel
theorem dX8_appendCharacter_0 : decode cX8_appendCharacter 0 = .ok (.iload_n 1, 1) := by decide +kernel
theorem dX8_appendCharacter_1 : decode cX8_appendCharacter 1 = .ok (.ifCond .lt 10, 3) := by decide +kernel
theorem dX8_appendCharacter_4 : decode cX8_appendCharacter 4 = .ok (.iload_n 1, 1) := by decide +kernel
theorem dX8_appendCharacter_5 : decode cX8_appendCharacter 5 = .ok (.sipush 255, 3) := by decide +kernel
theorem dX8_appendCharacter_8 : decode cX8_appendCharacter 8 = .ok (.if_icmp .le 5, 3) := by decide +kernel
theorem dX8_appendCharacter_11 : decode cX8_appendCharacter 11 = .ok (.iconst (-1), 1) := by decide +kernel
theorem dX8_appendCharacter_12 : decode cX8_appendCharacter 12 = .ok (.ireturn, 1) := by decide +kernel
theorem dX8_appendCharacter_13 : decode cX8_appendCharacter 13 = .ok (.aload_n 0, 1) := by decide +kernel
theorem dX8_appendCharacter_14 : decode cX8_appendCharacter 14 = .ok (.getfield 31, 3) := by decide +kernel
theorem dX8_appendCharacter_17 : decode cX8_appendCharacter 17 = .ok (.getfield 107, 3) := by decide +kernel
theorem dX8_appendCharacter_20 : decode cX8_appendCharacter 20 = .ok (.bipush 60, 2) := by decide +kernel
theorem dX8_appendCharacter_22 : decode cX8_appendCharacter 22 = .ok (.if_icmp .lt 6, 3) := by decide +kernel
theorem dX8_appendCharacter_25 : decode cX8_appendCharacter 25 = .ok (.bipush (-3), 2) := by decide +kernel
theorem dX8_appendCharacter_27 : decode cX8_appendCharacter 27 = .ok (.ireturn, 1) := by decide +kernel
theorem dX8_appendCharacter_28 : decode cX8_appendCharacter 28 = .ok (.aload_n 0, 1) := by decide +kernel
theorem dX8_appendCharacter_29 : decode cX8_appendCharacter 29 = .ok (.getfield 31, 3) := by decide +kernel
theorem dX8_appendCharacter_32 : decode cX8_appendCharacter 32 = .ok (.iload_n 1, 1) := by decide +kernel
theorem dX8_appendCharacter_33 : decode cX8_appendCharacter 33 = .ok (.invokevirtual 110, 3) := by decide +kernel
theorem dX8_appendCharacter_36 : decode cX8_appendCharacter 36 = .ok (.aload_n 0, 1) := by decide +kernel
theorem dX8_appendCharacter_37 : decode cX8_appendCharacter 37 = .ok (.getfield 31, 3) := by decide +kernel
theorem dX8_appendCharacter_40 : decode cX8_appendCharacter 40 = .ok (.getfield 107, 3) := by decide +kernel
theorem dX8_appendCharacter_43 : decode cX8_appendCharacter 43 = .ok (.ireturn, 1) := by decide +kernel
theorem dX8_clearText_0 : decode cX8_clearText 0 = .ok (.aload_n 0, 1) := by decide +kernel
theorem dX8_clearText_1 : decode cX8_clearText 1 = .ok (.getfield 31, 3) := by decide +kernel
theorem dX8_clearText_4 : decode cX8_clearText 4 = .ok (.getfield 107, 3) := by decide +kernel
theorem dX8_clearText_7 : decode cX8_clearText 7 = .ok (.istore_n 1, 1) := by decide +kernel
theorem dX8_clearText_8 : decode cX8_clearText 8 = .ok (.aload_n 0, 1) := by decide +kernel
theorem dX8_clearText_9 : decode cX8_clearText 9 = .ok (.getfield 31, 3) := by decide +kernel
theorem dX8_clearText_12 : decode cX8_clearText 12 = .ok (.iconst 0, 1) := by decide +kernel
theorem dX8_clearText_13 : decode cX8_clearText 13 = .ok (.putfield 107, 3) := by decide +kernel
theorem dX8_clearText_16 : decode cX8_clearText 16 = .ok (.iload_n 1, 1) := by decide +kernel
theorem dX8_clearText_17 : decode cX8_clearText 17 = .ok (.ireturn, 1) := by decide +kernel
theorem dX8_loadGraph_0 : decode cX8_loadGraph 0 = .ok (.aload_n 0, 1) := by decide +kernel
theorem dX8_loadGraph_1 : decode cX8_loadGraph 1 = .ok (.getfield 18, 3) := by decide +kernel
theorem dX8_loadGraph_4 : decode cX8_loadGraph 4 = .ok (.aload_n 0, 1) := by decide +kernel
theorem dX8_loadGraph_5 : decode cX8_loadGraph 5 = .ok (.getfield 12, 3) := by decide +kernel
theorem dX8_loadGraph_8 : decode cX8_loadGraph 8 = .ok (.getfield 70, 3) := by decide +kernel
theorem dX8_loadGraph_11 : decode cX8_loadGraph 11 = .ok (.invokevirtual 78, 3) := by decide +kernel
theorem dX8_loadGraph_14 : decode cX8_loadGraph 14 = .ok (.aload_n 0, 1) := by decide +kernel
theorem dX8_loadGraph_15 : decode cX8_loadGraph 15 = .ok (.getfield 31, 3) := by decide +kernel
theorem dX8_loadGraph_18 : decode cX8_loadGraph 18 = .ok (.aload_n 0, 1) := by decide +kernel
theorem dX8_loadGraph_19 : decode cX8_loadGraph 19 = .ok (.getfield 18, 3) := by decide +kernel
theorem dX8_loadGraph_22 : decode cX8_loadGraph 22 = .ok (.invokevirtual 112, 3) := by decide +kernel
theorem dX8_loadGraph_25 : decode cX8_loadGraph 25 = .ok (.istore_n 1, 1) := by decide +kernel
theorem dX8_loadGraph_26 : decode cX8_loadGraph 26 = .ok (.iload_n 1, 1) := by decide +kernel
theorem dX8_loadGraph_27 : decode cX8_loadGraph 27 = .ok (.iconst (-1), 1) := by decide +kernel
theorem dX8_loadGraph_28 : decode cX8_loadGraph 28 = .ok (.if_icmp .eq 8, 3) := by decide +kernel
theorem dX8_loadGraph_31 : decode cX8_loadGraph 31 = .ok (.bipush (-10), 2) := by decide +kernel
theorem dX8_loadGraph_33 : decode cX8_loadGraph 33 = .ok (.iload_n 1, 1) := by decide +kernel
theorem dX8_loadGraph_34 : decode cX8_loadGraph 34 = .ok (.isub, 1) := by decide +kernel
theorem dX8_loadGraph_35 : decode cX8_loadGraph 35 = .ok (.ireturn, 1) := by decide +kernel
theorem dX8_loadGraph_36 : decode cX8_loadGraph 36 = .ok (.aload_n 0, 1) := by decide +kernel
theorem dX8_loadGraph_37 : decode cX8_loadGraph 37 = .ok (.getfield 24, 3) := by decide +kernel
theorem dX8_loadGraph_40 : decode cX8_loadGraph 40 = .ok (.aload_n 0, 1) := by decide +kernel
theorem dX8_loadGraph_41 : decode cX8_loadGraph 41 = .ok (.getfield 12, 3) := by decide +kernel
theorem dX8_loadGraph_44 : decode cX8_loadGraph 44 = .ok (.invokevirtual 74, 3) := by decide +kernel
theorem dX8_loadGraph_47 : decode cX8_loadGraph 47 = .ok (.aload_n 0, 1) := by decide +kernel
theorem dX8_loadGraph_48 : decode cX8_loadGraph 48 = .ok (.getfield 12, 3) := by decide +kernel
theorem dX8_loadGraph_51 : decode cX8_loadGraph 51 = .ok (.aload_n 0, 1) := by decide +kernel
theorem dX8_loadGraph_52 : decode cX8_loadGraph 52 = .ok (.getfield 18, 3) := by decide +kernel
theorem dX8_loadGraph_55 : decode cX8_loadGraph 55 = .ok (.invokevirtual 116, 3) := by decide +kernel
theorem dX8_loadGraph_58 : decode cX8_loadGraph 58 = .ok (.aload_n 0, 1) := by decide +kernel
theorem dX8_loadGraph_59 : decode cX8_loadGraph 59 = .ok (.getfield 31, 3) := by decide +kernel
theorem dX8_loadGraph_62 : decode cX8_loadGraph 62 = .ok (.iconst 0, 1) := by decide +kernel
theorem dX8_loadGraph_63 : decode cX8_loadGraph 63 = .ok (.putfield 107, 3) := by decide +kernel
theorem dX8_loadGraph_66 : decode cX8_loadGraph 66 = .ok (.aload_n 0, 1) := by decide +kernel
theorem dX8_loadGraph_67 : decode cX8_loadGraph 67 = .ok (.getfield 12, 3) := by decide +kernel
theorem dX8_loadGraph_70 : decode cX8_loadGraph 70 = .ok (.getfield 94, 3) := by decide +kernel
theorem dX8_loadGraph_73 : decode cX8_loadGraph 73 = .ok (.ireturn, 1) := by decide +kernel
theorem dX8_undo_0 : decode cX8_undo 0 = .ok (.aload_n 0, 1) := by decide +kernel
theorem dX8_undo_1 : decode cX8_undo 1 = .ok (.getfield 24, 3) := by decide +kernel
theorem dX8_undo_4 : decode cX8_undo 4 = .ok (.getfield 119, 3) := by decide +kernel
theorem dX8_undo_7 : decode cX8_undo 7 = .ok (.ifCond .ne 6, 3) := by decide +kernel
theorem dX8_undo_10 : decode cX8_undo 10 = .ok (.bipush (-2), 2) := by decide +kernel
theorem dX8_undo_12 : decode cX8_undo 12 = .ok (.ireturn, 1) := by decide +kernel
theorem dX8_undo_13 : decode cX8_undo 13 = .ok (.aload_n 0, 1) := by decide +kernel
theorem dX8_undo_14 : decode cX8_undo 14 = .ok (.getfield 24, 3) := by decide +kernel
theorem dX8_undo_17 : decode cX8_undo 17 = .ok (.aload_n 0, 1) := by decide +kernel
theorem dX8_undo_18 : decode cX8_undo 18 = .ok (.getfield 12, 3) := by decide +kernel
theorem dX8_undo_21 : decode cX8_undo 21 = .ok (.invokevirtual 122, 3) := by decide +kernel
theorem dX8_undo_24 : decode cX8_undo 24 = .ok (.aload_n 0, 1) := by decide +kernel
theorem dX8_undo_25 : decode cX8_undo 25 = .ok (.getfield 24, 3) := by decide +kernel
theorem dX8_undo_28 : decode cX8_undo 28 = .ok (.getfield 119, 3) := by decide +kernel
theorem dX8_undo_31 : decode cX8_undo 31 = .ok (.ireturn, 1) := by decide +kernel
theorem dX8_vertexCount_0 : decode cX8_vertexCount 0 = .ok (.aload_n 0, 1) := by decide +kernel
theorem dX8_vertexCount_1 : decode cX8_vertexCount 1 = .ok (.getfield 12, 3) := by decide +kernel
theorem dX8_vertexCount_4 : decode cX8_vertexCount 4 = .ok (.getfield 70, 3) := by decide +kernel
theorem dX8_vertexCount_7 : decode cX8_vertexCount 7 = .ok (.ireturn, 1) := by decide +kernel
theorem dX8_edgeCount_0 : decode cX8_edgeCount 0 = .ok (.aload_n 0, 1) := by decide +kernel
theorem dX8_edgeCount_1 : decode cX8_edgeCount 1 = .ok (.getfield 12, 3) := by decide +kernel
theorem dX8_edgeCount_4 : decode cX8_edgeCount 4 = .ok (.getfield 94, 3) := by decide +kernel
theorem dX8_edgeCount_7 : decode cX8_edgeCount 7 = .ok (.ireturn, 1) := by decide +kernel
theorem dX8_headOf_0 : decode cX8_headOf 0 = .ok (.aload_n 0, 1) := by decide +kernel
theorem dX8_headOf_1 : decode cX8_headOf 1 = .ok (.getfield 12, 3) := by decide +kernel
theorem dX8_headOf_4 : decode cX8_headOf 4 = .ok (.iload_n 1, 1) := by decide +kernel
theorem dX8_headOf_5 : decode cX8_headOf 5 = .ok (.invokevirtual 125, 3) := by decide +kernel
theorem dX8_headOf_8 : decode cX8_headOf 8 = .ok (.ifCond .ne 5, 3) := by decide +kernel
theorem dX8_headOf_11 : decode cX8_headOf 11 = .ok (.iconst (-1), 1) := by decide +kernel
theorem dX8_headOf_12 : decode cX8_headOf 12 = .ok (.ireturn, 1) := by decide +kernel
theorem dX8_headOf_13 : decode cX8_headOf 13 = .ok (.aload_n 0, 1) := by decide +kernel
theorem dX8_headOf_14 : decode cX8_headOf 14 = .ok (.getfield 12, 3) := by decide +kernel
theorem dX8_headOf_17 : decode cX8_headOf 17 = .ok (.iload_n 1, 1) := by decide +kernel
theorem dX8_headOf_18 : decode cX8_headOf 18 = .ok (.invokevirtual 128, 3) := by decide +kernel
theorem dX8_headOf_21 : decode cX8_headOf 21 = .ok (.ireturn, 1) := by decide +kernel
theorem dX8_follows_0 : decode cX8_follows 0 = .ok (.aload_n 0, 1) := by decide +kernel
theorem dX8_follows_1 : decode cX8_follows 1 = .ok (.getfield 12, 3) := by decide +kernel
theorem dX8_follows_4 : decode cX8_follows 4 = .ok (.iload_n 1, 1) := by decide +kernel
theorem dX8_follows_5 : decode cX8_follows 5 = .ok (.invokevirtual 125, 3) := by decide +kernel
theorem dX8_follows_8 : decode cX8_follows 8 = .ok (.ifCond .eq 14, 3) := by decide +kernel
theorem dX8_follows_11 : decode cX8_follows 11 = .ok (.aload_n 0, 1) := by decide +kernel
theorem dX8_follows_12 : decode cX8_follows 12 = .ok (.getfield 12, 3) := by decide +kernel
theorem dX8_follows_15 : decode cX8_follows 15 = .ok (.iload_n 2, 1) := by decide +kernel
theorem dX8_follows_16 : decode cX8_follows 16 = .ok (.invokevirtual 125, 3) := by decide +kernel
theorem dX8_follows_19 : decode cX8_follows 19 = .ok (.ifCond .ne 5, 3) := by decide +kernel
theorem dX8_follows_22 : decode cX8_follows 22 = .ok (.iconst (-1), 1) := by decide +kernel
theorem dX8_follows_23 : decode cX8_follows 23 = .ok (.ireturn, 1) := by decide +kernel
theorem dX8_follows_24 : decode cX8_follows 24 = .ok (.aload_n 0, 1) := by decide +kernel
theorem dX8_follows_25 : decode cX8_follows 25 = .ok (.getfield 12, 3) := by decide +kernel
theorem dX8_follows_28 : decode cX8_follows 28 = .ok (.iload_n 1, 1) := by decide +kernel
theorem dX8_follows_29 : decode cX8_follows 29 = .ok (.iload_n 2, 1) := by decide +kernel
theorem dX8_follows_30 : decode cX8_follows 30 = .ok (.invokevirtual 132, 3) := by decide +kernel
theorem dX8_follows_33 : decode cX8_follows 33 = .ok (.ifCond .eq 7, 3) := by decide +kernel
theorem dX8_follows_36 : decode cX8_follows 36 = .ok (.iconst 1, 1) := by decide +kernel
theorem dX8_follows_37 : decode cX8_follows 37 = .ok (.goto 4, 3) := by decide +kernel
theorem dX8_follows_40 : decode cX8_follows 40 = .ok (.iconst 0, 1) := by decide +kernel
theorem dX8_follows_41 : decode cX8_follows 41 = .ok (.ireturn, 1) := by decide +kernel
theorem dX8_degree_0 : decode cX8_degree 0 = .ok (.aload_n 0, 1) := by decide +kernel
theorem dX8_degree_1 : decode cX8_degree 1 = .ok (.getfield 12, 3) := by decide +kernel
theorem dX8_degree_4 : decode cX8_degree 4 = .ok (.iload_n 1, 1) := by decide +kernel
theorem dX8_degree_5 : decode cX8_degree 5 = .ok (.invokevirtual 82, 3) := by decide +kernel
theorem dX8_degree_8 : decode cX8_degree 8 = .ok (.ifCond .ne 5, 3) := by decide +kernel
theorem dX8_degree_11 : decode cX8_degree 11 = .ok (.iconst (-1), 1) := by decide +kernel
theorem dX8_degree_12 : decode cX8_degree 12 = .ok (.ireturn, 1) := by decide +kernel
theorem dX8_degree_13 : decode cX8_degree 13 = .ok (.aload_n 0, 1) := by decide +kernel
theorem dX8_degree_14 : decode cX8_degree 14 = .ok (.getfield 12, 3) := by decide +kernel
theorem dX8_degree_17 : decode cX8_degree 17 = .ok (.iload_n 1, 1) := by decide +kernel
theorem dX8_degree_18 : decode cX8_degree 18 = .ok (.invokevirtual 136, 3) := by decide +kernel
theorem dX8_degree_21 : decode cX8_degree 21 = .ok (.ireturn, 1) := by decide +kernel
theorem dX8_components_0 : decode cX8_components 0 = .ok (.aload_n 0, 1) := by decide +kernel
theorem dX8_components_1 : decode cX8_components 1 = .ok (.getfield 38, 3) := by decide +kernel
theorem dX8_components_4 : decode cX8_components 4 = .ok (.aload_n 0, 1) := by decide +kernel
theorem dX8_components_5 : decode cX8_components 5 = .ok (.getfield 12, 3) := by decide +kernel
theorem dX8_components_8 : decode cX8_components 8 = .ok (.invokevirtual 139, 3) := by decide +kernel
theorem dX8_components_11 : decode cX8_components 11 = .ok (.ireturn, 1) := by decide +kernel
theorem dX8_rank_0 : decode cX8_rank 0 = .ok (.aload_n 0, 1) := by decide +kernel
theorem dX8_rank_1 : decode cX8_rank 1 = .ok (.getfield 12, 3) := by decide +kernel
theorem dX8_rank_4 : decode cX8_rank 4 = .ok (.getfield 94, 3) := by decide +kernel
theorem dX8_rank_7 : decode cX8_rank 7 = .ok (.aload_n 0, 1) := by decide +kernel
theorem dX8_rank_8 : decode cX8_rank 8 = .ok (.getfield 12, 3) := by decide +kernel
theorem dX8_rank_11 : decode cX8_rank 11 = .ok (.getfield 70, 3) := by decide +kernel
theorem dX8_rank_14 : decode cX8_rank 14 = .ok (.isub, 1) := by decide +kernel
theorem dX8_rank_15 : decode cX8_rank 15 = .ok (.aload_n 0, 1) := by decide +kernel
theorem dX8_rank_16 : decode cX8_rank 16 = .ok (.getfield 38, 3) := by decide +kernel
theorem dX8_rank_19 : decode cX8_rank 19 = .ok (.aload_n 0, 1) := by decide +kernel
theorem dX8_rank_20 : decode cX8_rank 20 = .ok (.getfield 12, 3) := by decide +kernel
theorem dX8_rank_23 : decode cX8_rank 23 = .ok (.invokevirtual 139, 3) := by decide +kernel
theorem dX8_rank_26 : decode cX8_rank 26 = .ok (.iadd, 1) := by decide +kernel
theorem dX8_rank_27 : decode cX8_rank 27 = .ok (.ireturn, 1) := by decide +kernel
theorem dX8_isBalanced_0 : decode cX8_isBalanced 0 = .ok (.aload_n 0, 1) := by decide +kernel
theorem dX8_isBalanced_1 : decode cX8_isBalanced 1 = .ok (.getfield 38, 3) := by decide +kernel
theorem dX8_isBalanced_4 : decode cX8_isBalanced 4 = .ok (.aload_n 0, 1) := by decide +kernel
theorem dX8_isBalanced_5 : decode cX8_isBalanced 5 = .ok (.getfield 12, 3) := by decide +kernel
theorem dX8_isBalanced_8 : decode cX8_isBalanced 8 = .ok (.invokevirtual 142, 3) := by decide +kernel
theorem dX8_isBalanced_11 : decode cX8_isBalanced 11 = .ok (.ifCond .eq 7, 3) := by decide +kernel
theorem dX8_isBalanced_14 : decode cX8_isBalanced 14 = .ok (.iconst 1, 1) := by decide +kernel
theorem dX8_isBalanced_15 : decode cX8_isBalanced 15 = .ok (.goto 4, 3) := by decide +kernel
theorem dX8_isBalanced_18 : decode cX8_isBalanced 18 = .ok (.iconst 0, 1) := by decide +kernel
theorem dX8_isBalanced_19 : decode cX8_isBalanced 19 = .ok (.ireturn, 1) := by decide +kernel
theorem dX8_walks_0 : decode cX8_walks 0 = .ok (.iload_n 1, 1) := by decide +kernel
theorem dX8_walks_1 : decode cX8_walks 1 = .ok (.invokestatic 146, 3) := by decide +kernel
theorem dX8_walks_4 : decode cX8_walks 4 = .ok (.ifCond .ne 7, 3) := by decide +kernel
theorem dX8_walks_7 : decode cX8_walks 7 = .ok (.ldc2_w 149, 3) := by decide +kernel
theorem dX8_walks_10 : decode cX8_walks 10 = .ok (.lreturn, 1) := by decide +kernel
theorem dX8_walks_11 : decode cX8_walks 11 = .ok (.aload_n 0, 1) := by decide +kernel
theorem dX8_walks_12 : decode cX8_walks 12 = .ok (.getfield 45, 3) := by decide +kernel
theorem dX8_walks_15 : decode cX8_walks 15 = .ok (.aload_n 0, 1) := by decide +kernel
theorem dX8_walks_16 : decode cX8_walks 16 = .ok (.getfield 12, 3) := by decide +kernel
theorem dX8_walks_19 : decode cX8_walks 19 = .ok (.invokevirtual 151, 3) := by decide +kernel
theorem dX8_walks_22 : decode cX8_walks 22 = .ok (.aload_n 0, 1) := by decide +kernel
theorem dX8_walks_23 : decode cX8_walks 23 = .ok (.getfield 45, 3) := by decide +kernel
theorem dX8_walks_26 : decode cX8_walks 26 = .ok (.getfield 154, 3) := by decide +kernel
theorem dX8_walks_29 : decode cX8_walks 29 = .ok (.iload_n 1, 1) := by decide +kernel
theorem dX8_walks_30 : decode cX8_walks 30 = .ok (.laload, 1) := by decide +kernel
theorem dX8_walks_31 : decode cX8_walks 31 = .ok (.lreturn, 1) := by decide +kernel
theorem dX8_signedWalks_0 : decode cX8_signedWalks 0 = .ok (.iload_n 1, 1) := by decide +kernel
theorem dX8_signedWalks_1 : decode cX8_signedWalks 1 = .ok (.invokestatic 146, 3) := by decide +kernel
theorem dX8_signedWalks_4 : decode cX8_signedWalks 4 = .ok (.ifCond .ne 7, 3) := by decide +kernel
theorem dX8_signedWalks_7 : decode cX8_signedWalks 7 = .ok (.ldc2_w 149, 3) := by decide +kernel
theorem dX8_signedWalks_10 : decode cX8_signedWalks 10 = .ok (.lreturn, 1) := by decide +kernel
theorem dX8_signedWalks_11 : decode cX8_signedWalks 11 = .ok (.aload_n 0, 1) := by decide +kernel
theorem dX8_signedWalks_12 : decode cX8_signedWalks 12 = .ok (.getfield 45, 3) := by decide +kernel
theorem dX8_signedWalks_15 : decode cX8_signedWalks 15 = .ok (.aload_n 0, 1) := by decide +kernel
theorem dX8_signedWalks_16 : decode cX8_signedWalks 16 = .ok (.getfield 12, 3) := by decide +kernel
theorem dX8_signedWalks_19 : decode cX8_signedWalks 19 = .ok (.invokevirtual 158, 3) := by decide +kernel
theorem dX8_signedWalks_22 : decode cX8_signedWalks 22 = .ok (.aload_n 0, 1) := by decide +kernel
theorem dX8_signedWalks_23 : decode cX8_signedWalks 23 = .ok (.getfield 45, 3) := by decide +kernel
theorem dX8_signedWalks_26 : decode cX8_signedWalks 26 = .ok (.getfield 161, 3) := by decide +kernel
theorem dX8_signedWalks_29 : decode cX8_signedWalks 29 = .ok (.iload_n 1, 1) := by decide +kernel
theorem dX8_signedWalks_30 : decode cX8_signedWalks 30 = .ok (.laload, 1) := by decide +kernel
theorem dX8_signedWalks_31 : decode cX8_signedWalks 31 = .ok (.lreturn, 1) := by decide +kernel
theorem dX8_coverWalks_0 : decode cX8_coverWalks 0 = .ok (.iload_n 1, 1) := by decide +kernel
theorem dX8_coverWalks_1 : decode cX8_coverWalks 1 = .ok (.invokestatic 146, 3) := by decide +kernel
theorem dX8_coverWalks_4 : decode cX8_coverWalks 4 = .ok (.ifCond .ne 7, 3) := by decide +kernel
theorem dX8_coverWalks_7 : decode cX8_coverWalks 7 = .ok (.ldc2_w 149, 3) := by decide +kernel
theorem dX8_coverWalks_10 : decode cX8_coverWalks 10 = .ok (.lreturn, 1) := by decide +kernel
theorem dX8_coverWalks_11 : decode cX8_coverWalks 11 = .ok (.aload_n 0, 1) := by decide +kernel
theorem dX8_coverWalks_12 : decode cX8_coverWalks 12 = .ok (.getfield 45, 3) := by decide +kernel
theorem dX8_coverWalks_15 : decode cX8_coverWalks 15 = .ok (.aload_n 0, 1) := by decide +kernel
theorem dX8_coverWalks_16 : decode cX8_coverWalks 16 = .ok (.getfield 12, 3) := by decide +kernel
theorem dX8_coverWalks_19 : decode cX8_coverWalks 19 = .ok (.invokevirtual 151, 3) := by decide +kernel
theorem dX8_coverWalks_22 : decode cX8_coverWalks 22 = .ok (.aload_n 0, 1) := by decide +kernel
theorem dX8_coverWalks_23 : decode cX8_coverWalks 23 = .ok (.getfield 45, 3) := by decide +kernel
theorem dX8_coverWalks_26 : decode cX8_coverWalks 26 = .ok (.aload_n 0, 1) := by decide +kernel
theorem dX8_coverWalks_27 : decode cX8_coverWalks 27 = .ok (.getfield 12, 3) := by decide +kernel
theorem dX8_coverWalks_30 : decode cX8_coverWalks 30 = .ok (.invokevirtual 158, 3) := by decide +kernel
theorem dX8_coverWalks_33 : decode cX8_coverWalks 33 = .ok (.aload_n 0, 1) := by decide +kernel
theorem dX8_coverWalks_34 : decode cX8_coverWalks 34 = .ok (.getfield 45, 3) := by decide +kernel
theorem dX8_coverWalks_37 : decode cX8_coverWalks 37 = .ok (.getfield 154, 3) := by decide +kernel
theorem dX8_coverWalks_40 : decode cX8_coverWalks 40 = .ok (.iload_n 1, 1) := by decide +kernel
theorem dX8_coverWalks_41 : decode cX8_coverWalks 41 = .ok (.laload, 1) := by decide +kernel
theorem dX8_coverWalks_42 : decode cX8_coverWalks 42 = .ok (.aload_n 0, 1) := by decide +kernel
theorem dX8_coverWalks_43 : decode cX8_coverWalks 43 = .ok (.getfield 45, 3) := by decide +kernel
theorem dX8_coverWalks_46 : decode cX8_coverWalks 46 = .ok (.getfield 161, 3) := by decide +kernel
theorem dX8_coverWalks_49 : decode cX8_coverWalks 49 = .ok (.iload_n 1, 1) := by decide +kernel
theorem dX8_coverWalks_50 : decode cX8_coverWalks 50 = .ok (.laload, 1) := by decide +kernel
theorem dX8_coverWalks_51 : decode cX8_coverWalks 51 = .ok (.ladd, 1) := by decide +kernel
theorem dX8_coverWalks_52 : decode cX8_coverWalks 52 = .ok (.lreturn, 1) := by decide +kernel
theorem dX8_primes_0 : decode cX8_primes 0 = .ok (.iload_n 1, 1) := by decide +kernel
theorem dX8_primes_1 : decode cX8_primes 1 = .ok (.invokestatic 146, 3) := by decide +kernel
theorem dX8_primes_4 : decode cX8_primes 4 = .ok (.ifCond .ne 7, 3) := by decide +kernel
theorem dX8_primes_7 : decode cX8_primes 7 = .ok (.ldc2_w 149, 3) := by decide +kernel
theorem dX8_primes_10 : decode cX8_primes 10 = .ok (.lreturn, 1) := by decide +kernel
theorem dX8_primes_11 : decode cX8_primes 11 = .ok (.aload_n 0, 1) := by decide +kernel
theorem dX8_primes_12 : decode cX8_primes 12 = .ok (.getfield 45, 3) := by decide +kernel
theorem dX8_primes_15 : decode cX8_primes 15 = .ok (.aload_n 0, 1) := by decide +kernel
theorem dX8_primes_16 : decode cX8_primes 16 = .ok (.getfield 12, 3) := by decide +kernel
theorem dX8_primes_19 : decode cX8_primes 19 = .ok (.invokevirtual 164, 3) := by decide +kernel
theorem dX8_primes_22 : decode cX8_primes 22 = .ok (.aload_n 0, 1) := by decide +kernel
theorem dX8_primes_23 : decode cX8_primes 23 = .ok (.getfield 45, 3) := by decide +kernel
theorem dX8_primes_26 : decode cX8_primes 26 = .ok (.getfield 167, 3) := by decide +kernel
theorem dX8_primes_29 : decode cX8_primes 29 = .ok (.iload_n 1, 1) := by decide +kernel
theorem dX8_primes_30 : decode cX8_primes 30 = .ok (.laload, 1) := by decide +kernel
theorem dX8_primes_31 : decode cX8_primes 31 = .ok (.iload_n 1, 1) := by decide +kernel
theorem dX8_primes_32 : decode cX8_primes 32 = .ok (.i2l, 1) := by decide +kernel
theorem dX8_primes_33 : decode cX8_primes 33 = .ok (.ldiv, 1) := by decide +kernel
theorem dX8_primes_34 : decode cX8_primes 34 = .ok (.lreturn, 1) := by decide +kernel
theorem dX8_positivePrimes_0 : decode cX8_positivePrimes 0 = .ok (.iload_n 1, 1) := by decide +kernel
theorem dX8_positivePrimes_1 : decode cX8_positivePrimes 1 = .ok (.invokestatic 146, 3) := by decide +kernel
theorem dX8_positivePrimes_4 : decode cX8_positivePrimes 4 = .ok (.ifCond .ne 7, 3) := by decide +kernel
theorem dX8_positivePrimes_7 : decode cX8_positivePrimes 7 = .ok (.ldc2_w 149, 3) := by decide +kernel
theorem dX8_positivePrimes_10 : decode cX8_positivePrimes 10 = .ok (.lreturn, 1) := by decide +kernel
theorem dX8_positivePrimes_11 : decode cX8_positivePrimes 11 = .ok (.aload_n 0, 1) := by decide +kernel
theorem dX8_positivePrimes_12 : decode cX8_positivePrimes 12 = .ok (.getfield 45, 3) := by decide +kernel
theorem dX8_positivePrimes_15 : decode cX8_positivePrimes 15 = .ok (.aload_n 0, 1) := by decide +kernel
theorem dX8_positivePrimes_16 : decode cX8_positivePrimes 16 = .ok (.getfield 12, 3) := by decide +kernel
theorem dX8_positivePrimes_19 : decode cX8_positivePrimes 19 = .ok (.invokevirtual 170, 3) := by decide +kernel
theorem dX8_positivePrimes_22 : decode cX8_positivePrimes 22 = .ok (.aload_n 0, 1) := by decide +kernel
theorem dX8_positivePrimes_23 : decode cX8_positivePrimes 23 = .ok (.getfield 45, 3) := by decide +kernel
theorem dX8_positivePrimes_26 : decode cX8_positivePrimes 26 = .ok (.getfield 167, 3) := by decide +kernel
theorem dX8_positivePrimes_29 : decode cX8_positivePrimes 29 = .ok (.iload_n 1, 1) := by decide +kernel
theorem dX8_positivePrimes_30 : decode cX8_positivePrimes 30 = .ok (.laload, 1) := by decide +kernel
theorem dX8_positivePrimes_31 : decode cX8_positivePrimes 31 = .ok (.aload_n 0, 1) := by decide +kernel
theorem dX8_positivePrimes_32 : decode cX8_positivePrimes 32 = .ok (.getfield 45, 3) := by decide +kernel
theorem dX8_positivePrimes_35 : decode cX8_positivePrimes 35 = .ok (.getfield 173, 3) := by decide +kernel
theorem dX8_positivePrimes_38 : decode cX8_positivePrimes 38 = .ok (.iload_n 1, 1) := by decide +kernel
theorem dX8_positivePrimes_39 : decode cX8_positivePrimes 39 = .ok (.laload, 1) := by decide +kernel
theorem dX8_positivePrimes_40 : decode cX8_positivePrimes 40 = .ok (.ladd, 1) := by decide +kernel
theorem dX8_positivePrimes_41 : decode cX8_positivePrimes 41 = .ok (.ldc2_w 176, 3) := by decide +kernel
theorem dX8_positivePrimes_44 : decode cX8_positivePrimes 44 = .ok (.ldiv, 1) := by decide +kernel
theorem dX8_positivePrimes_45 : decode cX8_positivePrimes 45 = .ok (.lstore_n 2, 1) := by decide +kernel
theorem dX8_positivePrimes_46 : decode cX8_positivePrimes 46 = .ok (.lload_n 2, 1) := by decide +kernel
theorem dX8_positivePrimes_47 : decode cX8_positivePrimes 47 = .ok (.iload_n 1, 1) := by decide +kernel
theorem dX8_positivePrimes_48 : decode cX8_positivePrimes 48 = .ok (.i2l, 1) := by decide +kernel
theorem dX8_positivePrimes_49 : decode cX8_positivePrimes 49 = .ok (.ldiv, 1) := by decide +kernel
theorem dX8_positivePrimes_50 : decode cX8_positivePrimes 50 = .ok (.lreturn, 1) := by decide +kernel
theorem dX8_girth_0 : decode cX8_girth 0 = .ok (.aload_n 0, 1) := by decide +kernel
theorem dX8_girth_1 : decode cX8_girth 1 = .ok (.getfield 45, 3) := by decide +kernel
theorem dX8_girth_4 : decode cX8_girth 4 = .ok (.aload_n 0, 1) := by decide +kernel
theorem dX8_girth_5 : decode cX8_girth 5 = .ok (.getfield 12, 3) := by decide +kernel
theorem dX8_girth_8 : decode cX8_girth 8 = .ok (.invokevirtual 164, 3) := by decide +kernel
theorem dX8_girth_11 : decode cX8_girth 11 = .ok (.iconst 1, 1) := by decide +kernel
theorem dX8_girth_12 : decode cX8_girth 12 = .ok (.istore_n 1, 1) := by decide +kernel
theorem dX8_girth_13 : decode cX8_girth 13 = .ok (.iload_n 1, 1) := by decide +kernel
theorem dX8_girth_14 : decode cX8_girth 14 = .ok (.bipush 18, 2) := by decide +kernel
theorem dX8_girth_16 : decode cX8_girth 16 = .ok (.if_icmp .gt 25, 3) := by decide +kernel
theorem dX8_girth_19 : decode cX8_girth 19 = .ok (.aload_n 0, 1) := by decide +kernel
theorem dX8_girth_20 : decode cX8_girth 20 = .ok (.getfield 45, 3) := by decide +kernel
theorem dX8_girth_23 : decode cX8_girth 23 = .ok (.getfield 167, 3) := by decide +kernel
theorem dX8_girth_26 : decode cX8_girth 26 = .ok (.iload_n 1, 1) := by decide +kernel
theorem dX8_girth_27 : decode cX8_girth 27 = .ok (.laload, 1) := by decide +kernel
theorem dX8_girth_28 : decode cX8_girth 28 = .ok (.lconst 0, 1) := by decide +kernel
theorem dX8_girth_29 : decode cX8_girth 29 = .ok (.lcmp, 1) := by decide +kernel
theorem dX8_girth_30 : decode cX8_girth 30 = .ok (.ifCond .eq 5, 3) := by decide +kernel
theorem dX8_girth_33 : decode cX8_girth 33 = .ok (.iload_n 1, 1) := by decide +kernel
theorem dX8_girth_34 : decode cX8_girth 34 = .ok (.ireturn, 1) := by decide +kernel
theorem dX8_girth_35 : decode cX8_girth 35 = .ok (.iinc 1 1, 3) := by decide +kernel
theorem dX8_girth_38 : decode cX8_girth 38 = .ok (.goto (-25), 3) := by decide +kernel
theorem dX8_girth_41 : decode cX8_girth 41 = .ok (.bipush (-9), 2) := by decide +kernel
theorem dX8_girth_43 : decode cX8_girth 43 = .ok (.ireturn, 1) := by decide +kernel
theorem dX8_period_0 : decode cX8_period 0 = .ok (.aload_n 0, 1) := by decide +kernel
theorem dX8_period_1 : decode cX8_period 1 = .ok (.getfield 45, 3) := by decide +kernel
theorem dX8_period_4 : decode cX8_period 4 = .ok (.aload_n 0, 1) := by decide +kernel
theorem dX8_period_5 : decode cX8_period 5 = .ok (.getfield 12, 3) := by decide +kernel
theorem dX8_period_8 : decode cX8_period 8 = .ok (.invokevirtual 164, 3) := by decide +kernel
theorem dX8_period_11 : decode cX8_period 11 = .ok (.iconst 0, 1) := by decide +kernel
theorem dX8_period_12 : decode cX8_period 12 = .ok (.istore_n 1, 1) := by decide +kernel
theorem dX8_period_13 : decode cX8_period 13 = .ok (.iconst 1, 1) := by decide +kernel
theorem dX8_period_14 : decode cX8_period 14 = .ok (.istore_n 2, 1) := by decide +kernel
theorem dX8_period_15 : decode cX8_period 15 = .ok (.iload_n 2, 1) := by decide +kernel
theorem dX8_period_16 : decode cX8_period 16 = .ok (.bipush 18, 2) := by decide +kernel
theorem dX8_period_18 : decode cX8_period 18 = .ok (.if_icmp .gt 29, 3) := by decide +kernel
theorem dX8_period_21 : decode cX8_period 21 = .ok (.aload_n 0, 1) := by decide +kernel
theorem dX8_period_22 : decode cX8_period 22 = .ok (.getfield 45, 3) := by decide +kernel
theorem dX8_period_25 : decode cX8_period 25 = .ok (.getfield 167, 3) := by decide +kernel
theorem dX8_period_28 : decode cX8_period 28 = .ok (.iload_n 2, 1) := by decide +kernel
theorem dX8_period_29 : decode cX8_period 29 = .ok (.laload, 1) := by decide +kernel
theorem dX8_period_30 : decode cX8_period 30 = .ok (.lconst 0, 1) := by decide +kernel
theorem dX8_period_31 : decode cX8_period 31 = .ok (.lcmp, 1) := by decide +kernel
theorem dX8_period_32 : decode cX8_period 32 = .ok (.ifCond .eq 9, 3) := by decide +kernel
theorem dX8_period_35 : decode cX8_period 35 = .ok (.iload_n 2, 1) := by decide +kernel
theorem dX8_period_36 : decode cX8_period 36 = .ok (.iload_n 1, 1) := by decide +kernel
theorem dX8_period_37 : decode cX8_period 37 = .ok (.invokestatic 178, 3) := by decide +kernel
theorem dX8_period_40 : decode cX8_period 40 = .ok (.istore_n 1, 1) := by decide +kernel
theorem dX8_period_41 : decode cX8_period 41 = .ok (.iinc 2 1, 3) := by decide +kernel
theorem dX8_period_44 : decode cX8_period 44 = .ok (.goto (-29), 3) := by decide +kernel
theorem dX8_period_47 : decode cX8_period 47 = .ok (.iload_n 1, 1) := by decide +kernel
theorem dX8_period_48 : decode cX8_period 48 = .ok (.ifCond .ne 8, 3) := by decide +kernel
theorem dX8_period_51 : decode cX8_period 51 = .ok (.bipush (-9), 2) := by decide +kernel
theorem dX8_period_53 : decode cX8_period 53 = .ok (.goto 4, 3) := by decide +kernel
theorem dX8_period_56 : decode cX8_period 56 = .ok (.iload_n 1, 1) := by decide +kernel
theorem dX8_period_57 : decode cX8_period 57 = .ok (.ireturn, 1) := by decide +kernel
theorem dX8_primeEdge_0 : decode cX8_primeEdge 0 = .ok (.iload_n 1, 1) := by decide +kernel
theorem dX8_primeEdge_1 : decode cX8_primeEdge 1 = .ok (.invokestatic 182, 3) := by decide +kernel
theorem dX8_primeEdge_4 : decode cX8_primeEdge 4 = .ok (.ifCond .eq 16, 3) := by decide +kernel
theorem dX8_primeEdge_7 : decode cX8_primeEdge 7 = .ok (.iload_n 2, 1) := by decide +kernel
theorem dX8_primeEdge_8 : decode cX8_primeEdge 8 = .ok (.ifCond .lt 12, 3) := by decide +kernel
theorem dX8_primeEdge_11 : decode cX8_primeEdge 11 = .ok (.iload_n 3, 1) := by decide +kernel
theorem dX8_primeEdge_12 : decode cX8_primeEdge 12 = .ok (.ifCond .lt 8, 3) := by decide +kernel
theorem dX8_primeEdge_15 : decode cX8_primeEdge 15 = .ok (.iload_n 3, 1) := by decide +kernel
theorem dX8_primeEdge_16 : decode cX8_primeEdge 16 = .ok (.iload_n 1, 1) := by decide +kernel
theorem dX8_primeEdge_17 : decode cX8_primeEdge 17 = .ok (.if_icmp .lt 5, 3) := by decide +kernel
theorem dX8_primeEdge_20 : decode cX8_primeEdge 20 = .ok (.iconst (-1), 1) := by decide +kernel
theorem dX8_primeEdge_21 : decode cX8_primeEdge 21 = .ok (.ireturn, 1) := by decide +kernel
theorem dX8_primeEdge_22 : decode cX8_primeEdge 22 = .ok (.aload_n 0, 1) := by decide +kernel
theorem dX8_primeEdge_23 : decode cX8_primeEdge 23 = .ok (.getfield 52, 3) := by decide +kernel
theorem dX8_primeEdge_26 : decode cX8_primeEdge 26 = .ok (.aload_n 0, 1) := by decide +kernel
theorem dX8_primeEdge_27 : decode cX8_primeEdge 27 = .ok (.getfield 12, 3) := by decide +kernel
theorem dX8_primeEdge_30 : decode cX8_primeEdge 30 = .ok (.iload_n 1, 1) := by decide +kernel
theorem dX8_primeEdge_31 : decode cX8_primeEdge 31 = .ok (.iload_n 2, 1) := by decide +kernel
theorem dX8_primeEdge_32 : decode cX8_primeEdge 32 = .ok (.invokevirtual 185, 3) := by decide +kernel
theorem dX8_primeEdge_35 : decode cX8_primeEdge 35 = .ok (.ifCond .ne 6, 3) := by decide +kernel
theorem dX8_primeEdge_38 : decode cX8_primeEdge 38 = .ok (.bipush (-9), 2) := by decide +kernel
theorem dX8_primeEdge_40 : decode cX8_primeEdge 40 = .ok (.ireturn, 1) := by decide +kernel
theorem dX8_primeEdge_41 : decode cX8_primeEdge 41 = .ok (.aload_n 0, 1) := by decide +kernel
theorem dX8_primeEdge_42 : decode cX8_primeEdge 42 = .ok (.getfield 52, 3) := by decide +kernel
theorem dX8_primeEdge_45 : decode cX8_primeEdge 45 = .ok (.getfield 189, 3) := by decide +kernel
theorem dX8_primeEdge_48 : decode cX8_primeEdge 48 = .ok (.iload_n 3, 1) := by decide +kernel
theorem dX8_primeEdge_49 : decode cX8_primeEdge 49 = .ok (.iaload, 1) := by decide +kernel
theorem dX8_primeEdge_50 : decode cX8_primeEdge 50 = .ok (.ireturn, 1) := by decide +kernel
theorem dX8_primeSign_0 : decode cX8_primeSign 0 = .ok (.iload_n 1, 1) := by decide +kernel
theorem dX8_primeSign_1 : decode cX8_primeSign 1 = .ok (.invokestatic 182, 3) := by decide +kernel
theorem dX8_primeSign_4 : decode cX8_primeSign 4 = .ok (.ifCond .eq 7, 3) := by decide +kernel
theorem dX8_primeSign_7 : decode cX8_primeSign 7 = .ok (.iload_n 2, 1) := by decide +kernel
theorem dX8_primeSign_8 : decode cX8_primeSign 8 = .ok (.ifCond .ge 5, 3) := by decide +kernel
theorem dX8_primeSign_11 : decode cX8_primeSign 11 = .ok (.iconst 0, 1) := by decide +kernel
theorem dX8_primeSign_12 : decode cX8_primeSign 12 = .ok (.ireturn, 1) := by decide +kernel
theorem dX8_primeSign_13 : decode cX8_primeSign 13 = .ok (.aload_n 0, 1) := by decide +kernel
theorem dX8_primeSign_14 : decode cX8_primeSign 14 = .ok (.getfield 52, 3) := by decide +kernel
theorem dX8_primeSign_17 : decode cX8_primeSign 17 = .ok (.aload_n 0, 1) := by decide +kernel
theorem dX8_primeSign_18 : decode cX8_primeSign 18 = .ok (.getfield 12, 3) := by decide +kernel
theorem dX8_primeSign_21 : decode cX8_primeSign 21 = .ok (.iload_n 1, 1) := by decide +kernel
theorem dX8_primeSign_22 : decode cX8_primeSign 22 = .ok (.iload_n 2, 1) := by decide +kernel
theorem dX8_primeSign_23 : decode cX8_primeSign 23 = .ok (.invokevirtual 185, 3) := by decide +kernel
theorem dX8_primeSign_26 : decode cX8_primeSign 26 = .ok (.ifCond .ne 5, 3) := by decide +kernel
theorem dX8_primeSign_29 : decode cX8_primeSign 29 = .ok (.iconst 0, 1) := by decide +kernel
theorem dX8_primeSign_30 : decode cX8_primeSign 30 = .ok (.ireturn, 1) := by decide +kernel
theorem dX8_primeSign_31 : decode cX8_primeSign 31 = .ok (.aload_n 0, 1) := by decide +kernel
theorem dX8_primeSign_32 : decode cX8_primeSign 32 = .ok (.getfield 52, 3) := by decide +kernel
theorem dX8_primeSign_35 : decode cX8_primeSign 35 = .ok (.aload_n 0, 1) := by decide +kernel
theorem dX8_primeSign_36 : decode cX8_primeSign 36 = .ok (.getfield 12, 3) := by decide +kernel
theorem dX8_primeSign_39 : decode cX8_primeSign 39 = .ok (.iload_n 1, 1) := by decide +kernel
theorem dX8_primeSign_40 : decode cX8_primeSign 40 = .ok (.invokevirtual 192, 3) := by decide +kernel
theorem dX8_primeSign_43 : decode cX8_primeSign 43 = .ok (.ireturn, 1) := by decide +kernel
theorem dX8_edgeCoefficient_0 : decode cX8_edgeCoefficient 0 = .ok (.iload_n 1, 1) := by decide +kernel
theorem dX8_edgeCoefficient_1 : decode cX8_edgeCoefficient 1 = .ok (.bipush 18, 2) := by decide +kernel
theorem dX8_edgeCoefficient_3 : decode cX8_edgeCoefficient 3 = .ok (.invokestatic 196, 3) := by decide +kernel
theorem dX8_edgeCoefficient_6 : decode cX8_edgeCoefficient 6 = .ok (.ifCond .ne 7, 3) := by decide +kernel
theorem dX8_edgeCoefficient_9 : decode cX8_edgeCoefficient 9 = .ok (.ldc2_w 149, 3) := by decide +kernel
theorem dX8_edgeCoefficient_12 : decode cX8_edgeCoefficient 12 = .ok (.lreturn, 1) := by decide +kernel
theorem dX8_edgeCoefficient_13 : decode cX8_edgeCoefficient 13 = .ok (.aload_n 0, 1) := by decide +kernel
theorem dX8_edgeCoefficient_14 : decode cX8_edgeCoefficient 14 = .ok (.invokevirtual 199, 3) := by decide +kernel
theorem dX8_edgeCoefficient_17 : decode cX8_edgeCoefficient 17 = .ok (.aload_n 0, 1) := by decide +kernel
theorem dX8_edgeCoefficient_18 : decode cX8_edgeCoefficient 18 = .ok (.getfield 59, 3) := by decide +kernel
theorem dX8_edgeCoefficient_21 : decode cX8_edgeCoefficient 21 = .ok (.getfield 202, 3) := by decide +kernel
theorem dX8_edgeCoefficient_24 : decode cX8_edgeCoefficient 24 = .ok (.iload_n 1, 1) := by decide +kernel
theorem dX8_edgeCoefficient_25 : decode cX8_edgeCoefficient 25 = .ok (.laload, 1) := by decide +kernel
theorem dX8_edgeCoefficient_26 : decode cX8_edgeCoefficient 26 = .ok (.lreturn, 1) := by decide +kernel
theorem dX8_signedCoefficient_0 : decode cX8_signedCoefficient 0 = .ok (.iload_n 1, 1) := by decide +kernel
theorem dX8_signedCoefficient_1 : decode cX8_signedCoefficient 1 = .ok (.bipush 18, 2) := by decide +kernel
theorem dX8_signedCoefficient_3 : decode cX8_signedCoefficient 3 = .ok (.invokestatic 196, 3) := by decide +kernel
theorem dX8_signedCoefficient_6 : decode cX8_signedCoefficient 6 = .ok (.ifCond .ne 7, 3) := by decide +kernel
theorem dX8_signedCoefficient_9 : decode cX8_signedCoefficient 9 = .ok (.ldc2_w 149, 3) := by decide +kernel
theorem dX8_signedCoefficient_12 : decode cX8_signedCoefficient 12 = .ok (.lreturn, 1) := by decide +kernel
theorem dX8_signedCoefficient_13 : decode cX8_signedCoefficient 13 = .ok (.aload_n 0, 1) := by decide +kernel
theorem dX8_signedCoefficient_14 : decode cX8_signedCoefficient 14 = .ok (.getfield 45, 3) := by decide +kernel
theorem dX8_signedCoefficient_17 : decode cX8_signedCoefficient 17 = .ok (.aload_n 0, 1) := by decide +kernel
theorem dX8_signedCoefficient_18 : decode cX8_signedCoefficient 18 = .ok (.getfield 12, 3) := by decide +kernel
theorem dX8_signedCoefficient_21 : decode cX8_signedCoefficient 21 = .ok (.invokevirtual 158, 3) := by decide +kernel
theorem dX8_signedCoefficient_24 : decode cX8_signedCoefficient 24 = .ok (.aload_n 0, 1) := by decide +kernel
theorem dX8_signedCoefficient_25 : decode cX8_signedCoefficient 25 = .ok (.getfield 59, 3) := by decide +kernel
theorem dX8_signedCoefficient_28 : decode cX8_signedCoefficient 28 = .ok (.aload_n 0, 1) := by decide +kernel
theorem dX8_signedCoefficient_29 : decode cX8_signedCoefficient 29 = .ok (.getfield 45, 3) := by decide +kernel
theorem dX8_signedCoefficient_32 : decode cX8_signedCoefficient 32 = .ok (.getfield 161, 3) := by decide +kernel
theorem dX8_signedCoefficient_35 : decode cX8_signedCoefficient 35 = .ok (.invokevirtual 205, 3) := by decide +kernel
theorem dX8_signedCoefficient_38 : decode cX8_signedCoefficient 38 = .ok (.aload_n 0, 1) := by decide +kernel
theorem dX8_signedCoefficient_39 : decode cX8_signedCoefficient 39 = .ok (.getfield 59, 3) := by decide +kernel
theorem dX8_signedCoefficient_42 : decode cX8_signedCoefficient 42 = .ok (.getfield 202, 3) := by decide +kernel
theorem dX8_signedCoefficient_45 : decode cX8_signedCoefficient 45 = .ok (.iload_n 1, 1) := by decide +kernel
theorem dX8_signedCoefficient_46 : decode cX8_signedCoefficient 46 = .ok (.laload, 1) := by decide +kernel
theorem dX8_signedCoefficient_47 : decode cX8_signedCoefficient 47 = .ok (.lreturn, 1) := by decide +kernel
theorem dX8_vertexCoefficient_0 : decode cX8_vertexCoefficient 0 = .ok (.iload_n 1, 1) := by decide +kernel
theorem dX8_vertexCoefficient_1 : decode cX8_vertexCoefficient 1 = .ok (.bipush 12, 2) := by decide +kernel
theorem dX8_vertexCoefficient_3 : decode cX8_vertexCoefficient 3 = .ok (.invokestatic 196, 3) := by decide +kernel
theorem dX8_vertexCoefficient_6 : decode cX8_vertexCoefficient 6 = .ok (.ifCond .ne 7, 3) := by decide +kernel
theorem dX8_vertexCoefficient_9 : decode cX8_vertexCoefficient 9 = .ok (.ldc2_w 149, 3) := by decide +kernel
theorem dX8_vertexCoefficient_12 : decode cX8_vertexCoefficient 12 = .ok (.lreturn, 1) := by decide +kernel
theorem dX8_vertexCoefficient_13 : decode cX8_vertexCoefficient 13 = .ok (.aload_n 0, 1) := by decide +kernel
theorem dX8_vertexCoefficient_14 : decode cX8_vertexCoefficient 14 = .ok (.getfield 66, 3) := by decide +kernel
theorem dX8_vertexCoefficient_17 : decode cX8_vertexCoefficient 17 = .ok (.aload_n 0, 1) := by decide +kernel
theorem dX8_vertexCoefficient_18 : decode cX8_vertexCoefficient 18 = .ok (.getfield 12, 3) := by decide +kernel
theorem dX8_vertexCoefficient_21 : decode cX8_vertexCoefficient 21 = .ok (.invokevirtual 209, 3) := by decide +kernel
theorem dX8_vertexCoefficient_24 : decode cX8_vertexCoefficient 24 = .ok (.aload_n 0, 1) := by decide +kernel
theorem dX8_vertexCoefficient_25 : decode cX8_vertexCoefficient 25 = .ok (.getfield 66, 3) := by decide +kernel
theorem dX8_vertexCoefficient_28 : decode cX8_vertexCoefficient 28 = .ok (.getfield 211, 3) := by decide +kernel
theorem dX8_vertexCoefficient_31 : decode cX8_vertexCoefficient 31 = .ok (.iload_n 1, 1) := by decide +kernel
theorem dX8_vertexCoefficient_32 : decode cX8_vertexCoefficient 32 = .ok (.laload, 1) := by decide +kernel
theorem dX8_vertexCoefficient_33 : decode cX8_vertexCoefficient 33 = .ok (.lreturn, 1) := by decide +kernel
theorem dX8_bassCoefficient_0 : decode cX8_bassCoefficient 0 = .ok (.iload_n 1, 1) := by decide +kernel
theorem dX8_bassCoefficient_1 : decode cX8_bassCoefficient 1 = .ok (.bipush 18, 2) := by decide +kernel
theorem dX8_bassCoefficient_3 : decode cX8_bassCoefficient 3 = .ok (.invokestatic 196, 3) := by decide +kernel
theorem dX8_bassCoefficient_6 : decode cX8_bassCoefficient 6 = .ok (.ifCond .ne 7, 3) := by decide +kernel
theorem dX8_bassCoefficient_9 : decode cX8_bassCoefficient 9 = .ok (.ldc2_w 149, 3) := by decide +kernel
theorem dX8_bassCoefficient_12 : decode cX8_bassCoefficient 12 = .ok (.lreturn, 1) := by decide +kernel
theorem dX8_bassCoefficient_13 : decode cX8_bassCoefficient 13 = .ok (.aload_n 0, 1) := by decide +kernel
theorem dX8_bassCoefficient_14 : decode cX8_bassCoefficient 14 = .ok (.getfield 66, 3) := by decide +kernel
theorem dX8_bassCoefficient_17 : decode cX8_bassCoefficient 17 = .ok (.aload_n 0, 1) := by decide +kernel
theorem dX8_bassCoefficient_18 : decode cX8_bassCoefficient 18 = .ok (.getfield 12, 3) := by decide +kernel
theorem dX8_bassCoefficient_21 : decode cX8_bassCoefficient 21 = .ok (.invokevirtual 209, 3) := by decide +kernel
theorem dX8_bassCoefficient_24 : decode cX8_bassCoefficient 24 = .ok (.aload_n 0, 1) := by decide +kernel
theorem dX8_bassCoefficient_25 : decode cX8_bassCoefficient 25 = .ok (.getfield 66, 3) := by decide +kernel
theorem dX8_bassCoefficient_28 : decode cX8_bassCoefficient 28 = .ok (.aload_n 0, 1) := by decide +kernel
theorem dX8_bassCoefficient_29 : decode cX8_bassCoefficient 29 = .ok (.getfield 12, 3) := by decide +kernel
theorem dX8_bassCoefficient_32 : decode cX8_bassCoefficient 32 = .ok (.getfield 94, 3) := by decide +kernel
theorem dX8_bassCoefficient_35 : decode cX8_bassCoefficient 35 = .ok (.aload_n 0, 1) := by decide +kernel
theorem dX8_bassCoefficient_36 : decode cX8_bassCoefficient 36 = .ok (.getfield 12, 3) := by decide +kernel
theorem dX8_bassCoefficient_39 : decode cX8_bassCoefficient 39 = .ok (.getfield 70, 3) := by decide +kernel
theorem dX8_bassCoefficient_42 : decode cX8_bassCoefficient 42 = .ok (.isub, 1) := by decide +kernel
theorem dX8_bassCoefficient_43 : decode cX8_bassCoefficient 43 = .ok (.invokevirtual 212, 3) := by decide +kernel
theorem dX8_bassCoefficient_46 : decode cX8_bassCoefficient 46 = .ok (.aload_n 0, 1) := by decide +kernel
theorem dX8_bassCoefficient_47 : decode cX8_bassCoefficient 47 = .ok (.getfield 66, 3) := by decide +kernel
theorem dX8_bassCoefficient_50 : decode cX8_bassCoefficient 50 = .ok (.getfield 211, 3) := by decide +kernel
theorem dX8_bassCoefficient_53 : decode cX8_bassCoefficient 53 = .ok (.iload_n 1, 1) := by decide +kernel
theorem dX8_bassCoefficient_54 : decode cX8_bassCoefficient 54 = .ok (.laload, 1) := by decide +kernel
theorem dX8_bassCoefficient_55 : decode cX8_bassCoefficient 55 = .ok (.lreturn, 1) := by decide +kernel
theorem dX8_zetaCoefficient_0 : decode cX8_zetaCoefficient 0 = .ok (.iload_n 1, 1) := by decide +kernel
theorem dX8_zetaCoefficient_1 : decode cX8_zetaCoefficient 1 = .ok (.bipush 12, 2) := by decide +kernel
theorem dX8_zetaCoefficient_3 : decode cX8_zetaCoefficient 3 = .ok (.invokestatic 196, 3) := by decide +kernel
theorem dX8_zetaCoefficient_6 : decode cX8_zetaCoefficient 6 = .ok (.ifCond .ne 7, 3) := by decide +kernel
theorem dX8_zetaCoefficient_9 : decode cX8_zetaCoefficient 9 = .ok (.ldc2_w 149, 3) := by decide +kernel
theorem dX8_zetaCoefficient_12 : decode cX8_zetaCoefficient 12 = .ok (.lreturn, 1) := by decide +kernel
theorem dX8_zetaCoefficient_13 : decode cX8_zetaCoefficient 13 = .ok (.aload_n 0, 1) := by decide +kernel
theorem dX8_zetaCoefficient_14 : decode cX8_zetaCoefficient 14 = .ok (.invokevirtual 199, 3) := by decide +kernel
theorem dX8_zetaCoefficient_17 : decode cX8_zetaCoefficient 17 = .ok (.aload_n 0, 1) := by decide +kernel
theorem dX8_zetaCoefficient_18 : decode cX8_zetaCoefficient 18 = .ok (.getfield 59, 3) := by decide +kernel
theorem dX8_zetaCoefficient_21 : decode cX8_zetaCoefficient 21 = .ok (.iload_n 1, 1) := by decide +kernel
theorem dX8_zetaCoefficient_22 : decode cX8_zetaCoefficient 22 = .ok (.invokevirtual 215, 3) := by decide +kernel
theorem dX8_zetaCoefficient_25 : decode cX8_zetaCoefficient 25 = .ok (.lreturn, 1) := by decide +kernel
theorem dX8_edgeValue_0 : decode cX8_edgeValue 0 = .ok (.iload_n 1, 1) := by decide +kernel
theorem dX8_edgeValue_1 : decode cX8_edgeValue 1 = .ok (.bipush (-2), 2) := by decide +kernel
theorem dX8_edgeValue_3 : decode cX8_edgeValue 3 = .ok (.if_icmp .lt 8, 3) := by decide +kernel
theorem dX8_edgeValue_6 : decode cX8_edgeValue 6 = .ok (.iload_n 1, 1) := by decide +kernel
theorem dX8_edgeValue_7 : decode cX8_edgeValue 7 = .ok (.iconst 2, 1) := by decide +kernel
theorem dX8_edgeValue_8 : decode cX8_edgeValue 8 = .ok (.if_icmp .le 7, 3) := by decide +kernel
theorem dX8_edgeValue_11 : decode cX8_edgeValue 11 = .ok (.ldc2_w 149, 3) := by decide +kernel
theorem dX8_edgeValue_14 : decode cX8_edgeValue 14 = .ok (.lreturn, 1) := by decide +kernel
theorem dX8_edgeValue_15 : decode cX8_edgeValue 15 = .ok (.aload_n 0, 1) := by decide +kernel
theorem dX8_edgeValue_16 : decode cX8_edgeValue 16 = .ok (.invokevirtual 199, 3) := by decide +kernel
theorem dX8_edgeValue_19 : decode cX8_edgeValue 19 = .ok (.aload_n 0, 1) := by decide +kernel
theorem dX8_edgeValue_20 : decode cX8_edgeValue 20 = .ok (.getfield 59, 3) := by decide +kernel
theorem dX8_edgeValue_23 : decode cX8_edgeValue 23 = .ok (.iload_n 1, 1) := by decide +kernel
theorem dX8_edgeValue_24 : decode cX8_edgeValue 24 = .ok (.i2l, 1) := by decide +kernel
theorem dX8_edgeValue_25 : decode cX8_edgeValue 25 = .ok (.invokevirtual 219, 3) := by decide +kernel
theorem dX8_edgeValue_28 : decode cX8_edgeValue 28 = .ok (.lreturn, 1) := by decide +kernel
theorem dX8_taylorAtOne_0 : decode cX8_taylorAtOne 0 = .ok (.iload_n 1, 1) := by decide +kernel
theorem dX8_taylorAtOne_1 : decode cX8_taylorAtOne 1 = .ok (.bipush 18, 2) := by decide +kernel
theorem dX8_taylorAtOne_3 : decode cX8_taylorAtOne 3 = .ok (.invokestatic 196, 3) := by decide +kernel
theorem dX8_taylorAtOne_6 : decode cX8_taylorAtOne 6 = .ok (.ifCond .ne 7, 3) := by decide +kernel
theorem dX8_taylorAtOne_9 : decode cX8_taylorAtOne 9 = .ok (.ldc2_w 149, 3) := by decide +kernel
theorem dX8_taylorAtOne_12 : decode cX8_taylorAtOne 12 = .ok (.lreturn, 1) := by decide +kernel
theorem dX8_taylorAtOne_13 : decode cX8_taylorAtOne 13 = .ok (.aload_n 0, 1) := by decide +kernel
theorem dX8_taylorAtOne_14 : decode cX8_taylorAtOne 14 = .ok (.invokevirtual 199, 3) := by decide +kernel
theorem dX8_taylorAtOne_17 : decode cX8_taylorAtOne 17 = .ok (.aload_n 0, 1) := by decide +kernel
theorem dX8_taylorAtOne_18 : decode cX8_taylorAtOne 18 = .ok (.getfield 59, 3) := by decide +kernel
theorem dX8_taylorAtOne_21 : decode cX8_taylorAtOne 21 = .ok (.iload_n 1, 1) := by decide +kernel
theorem dX8_taylorAtOne_22 : decode cX8_taylorAtOne 22 = .ok (.invokevirtual 223, 3) := by decide +kernel
theorem dX8_taylorAtOne_25 : decode cX8_taylorAtOne 25 = .ok (.lreturn, 1) := by decide +kernel
theorem dX8_edgeDegree_0 : decode cX8_edgeDegree 0 = .ok (.aload_n 0, 1) := by decide +kernel
theorem dX8_edgeDegree_1 : decode cX8_edgeDegree 1 = .ok (.invokevirtual 199, 3) := by decide +kernel
theorem dX8_edgeDegree_4 : decode cX8_edgeDegree 4 = .ok (.aload_n 0, 1) := by decide +kernel
theorem dX8_edgeDegree_5 : decode cX8_edgeDegree 5 = .ok (.getfield 59, 3) := by decide +kernel
theorem dX8_edgeDegree_8 : decode cX8_edgeDegree 8 = .ok (.invokevirtual 226, 3) := by decide +kernel
theorem dX8_edgeDegree_11 : decode cX8_edgeDegree 11 = .ok (.ireturn, 1) := by decide +kernel
theorem dX8_spanningTrees_0 : decode cX8_spanningTrees 0 = .ok (.aload_n 0, 1) := by decide +kernel
theorem dX8_spanningTrees_1 : decode cX8_spanningTrees 1 = .ok (.getfield 38, 3) := by decide +kernel
theorem dX8_spanningTrees_4 : decode cX8_spanningTrees 4 = .ok (.aload_n 0, 1) := by decide +kernel
theorem dX8_spanningTrees_5 : decode cX8_spanningTrees 5 = .ok (.getfield 12, 3) := by decide +kernel
theorem dX8_spanningTrees_8 : decode cX8_spanningTrees 8 = .ok (.invokevirtual 230, 3) := by decide +kernel
theorem dX8_spanningTrees_11 : decode cX8_spanningTrees 11 = .ok (.ireturn, 1) := by decide +kernel
theorem dX8_makeEdgePolynomial_0 : decode cX8_makeEdgePolynomial 0 = .ok (.aload_n 0, 1) := by decide +kernel
theorem dX8_makeEdgePolynomial_1 : decode cX8_makeEdgePolynomial 1 = .ok (.getfield 45, 3) := by decide +kernel
theorem dX8_makeEdgePolynomial_4 : decode cX8_makeEdgePolynomial 4 = .ok (.aload_n 0, 1) := by decide +kernel
theorem dX8_makeEdgePolynomial_5 : decode cX8_makeEdgePolynomial 5 = .ok (.getfield 12, 3) := by decide +kernel
theorem dX8_makeEdgePolynomial_8 : decode cX8_makeEdgePolynomial 8 = .ok (.invokevirtual 151, 3) := by decide +kernel
theorem dX8_makeEdgePolynomial_11 : decode cX8_makeEdgePolynomial 11 = .ok (.aload_n 0, 1) := by decide +kernel
theorem dX8_makeEdgePolynomial_12 : decode cX8_makeEdgePolynomial 12 = .ok (.getfield 59, 3) := by decide +kernel
theorem dX8_makeEdgePolynomial_15 : decode cX8_makeEdgePolynomial 15 = .ok (.aload_n 0, 1) := by decide +kernel
theorem dX8_makeEdgePolynomial_16 : decode cX8_makeEdgePolynomial 16 = .ok (.getfield 45, 3) := by decide +kernel
theorem dX8_makeEdgePolynomial_19 : decode cX8_makeEdgePolynomial 19 = .ok (.getfield 154, 3) := by decide +kernel
theorem dX8_makeEdgePolynomial_22 : decode cX8_makeEdgePolynomial 22 = .ok (.invokevirtual 205, 3) := by decide +kernel
theorem dX8_makeEdgePolynomial_25 : decode cX8_makeEdgePolynomial 25 = .ok (.return_, 1) := by decide +kernel
theorem dX8_isWalkLength_0 : decode cX8_isWalkLength 0 = .ok (.iload_n 0, 1) := by decide +kernel
theorem dX8_isWalkLength_1 : decode cX8_isWalkLength 1 = .ok (.iconst 1, 1) := by decide +kernel
theorem dX8_isWalkLength_2 : decode cX8_isWalkLength 2 = .ok (.if_icmp .lt 13, 3) := by decide +kernel
theorem dX8_isWalkLength_5 : decode cX8_isWalkLength 5 = .ok (.iload_n 0, 1) := by decide +kernel
theorem dX8_isWalkLength_6 : decode cX8_isWalkLength 6 = .ok (.bipush 18, 2) := by decide +kernel
theorem dX8_isWalkLength_8 : decode cX8_isWalkLength 8 = .ok (.if_icmp .gt 7, 3) := by decide +kernel
theorem dX8_isWalkLength_11 : decode cX8_isWalkLength 11 = .ok (.iconst 1, 1) := by decide +kernel
theorem dX8_isWalkLength_12 : decode cX8_isWalkLength 12 = .ok (.goto 4, 3) := by decide +kernel
theorem dX8_isWalkLength_15 : decode cX8_isWalkLength 15 = .ok (.iconst 0, 1) := by decide +kernel
theorem dX8_isWalkLength_16 : decode cX8_isWalkLength 16 = .ok (.ireturn, 1) := by decide +kernel
theorem dX8_isPrimeLength_0 : decode cX8_isPrimeLength 0 = .ok (.iload_n 0, 1) := by decide +kernel
theorem dX8_isPrimeLength_1 : decode cX8_isPrimeLength 1 = .ok (.iconst 1, 1) := by decide +kernel
theorem dX8_isPrimeLength_2 : decode cX8_isPrimeLength 2 = .ok (.if_icmp .lt 12, 3) := by decide +kernel
theorem dX8_isPrimeLength_5 : decode cX8_isPrimeLength 5 = .ok (.iload_n 0, 1) := by decide +kernel
theorem dX8_isPrimeLength_6 : decode cX8_isPrimeLength 6 = .ok (.iconst 5, 1) := by decide +kernel
theorem dX8_isPrimeLength_7 : decode cX8_isPrimeLength 7 = .ok (.if_icmp .gt 7, 3) := by decide +kernel
theorem dX8_isPrimeLength_10 : decode cX8_isPrimeLength 10 = .ok (.iconst 1, 1) := by decide +kernel
theorem dX8_isPrimeLength_11 : decode cX8_isPrimeLength 11 = .ok (.goto 4, 3) := by decide +kernel
theorem dX8_isPrimeLength_14 : decode cX8_isPrimeLength 14 = .ok (.iconst 0, 1) := by decide +kernel
theorem dX8_isPrimeLength_15 : decode cX8_isPrimeLength 15 = .ok (.ireturn, 1) := by decide +kernel
theorem dX8_isIndex_0 : decode cX8_isIndex 0 = .ok (.iload_n 0, 1) := by decide +kernel
theorem dX8_isIndex_1 : decode cX8_isIndex 1 = .ok (.ifCond .lt 12, 3) := by decide +kernel
theorem dX8_isIndex_4 : decode cX8_isIndex 4 = .ok (.iload_n 0, 1) := by decide +kernel
theorem dX8_isIndex_5 : decode cX8_isIndex 5 = .ok (.iload_n 1, 1) := by decide +kernel
theorem dX8_isIndex_6 : decode cX8_isIndex 6 = .ok (.if_icmp .gt 7, 3) := by decide +kernel
theorem dX8_isIndex_9 : decode cX8_isIndex 9 = .ok (.iconst 1, 1) := by decide +kernel
theorem dX8_isIndex_10 : decode cX8_isIndex 10 = .ok (.goto 4, 3) := by decide +kernel
theorem dX8_isIndex_13 : decode cX8_isIndex 13 = .ok (.iconst 0, 1) := by decide +kernel
theorem dX8_isIndex_14 : decode cX8_isIndex 14 = .ok (.ireturn, 1) := by decide +kernel
theorem dX8_commonDivisor_0 : decode cX8_commonDivisor 0 = .ok (.iload_n 0, 1) := by decide +kernel
theorem dX8_commonDivisor_1 : decode cX8_commonDivisor 1 = .ok (.istore_n 2, 1) := by decide +kernel
theorem dX8_commonDivisor_2 : decode cX8_commonDivisor 2 = .ok (.iload_n 2, 1) := by decide +kernel
theorem dX8_commonDivisor_3 : decode cX8_commonDivisor 3 = .ok (.iconst 1, 1) := by decide +kernel
theorem dX8_commonDivisor_4 : decode cX8_commonDivisor 4 = .ok (.if_icmp .le 23, 3) := by decide +kernel
theorem dX8_commonDivisor_7 : decode cX8_commonDivisor 7 = .ok (.iload_n 0, 1) := by decide +kernel
theorem dX8_commonDivisor_8 : decode cX8_commonDivisor 8 = .ok (.iload_n 2, 1) := by decide +kernel
theorem dX8_commonDivisor_9 : decode cX8_commonDivisor 9 = .ok (.irem, 1) := by decide +kernel
theorem dX8_commonDivisor_10 : decode cX8_commonDivisor 10 = .ok (.ifCond .ne 11, 3) := by decide +kernel
theorem dX8_commonDivisor_13 : decode cX8_commonDivisor 13 = .ok (.iload_n 1, 1) := by decide +kernel
theorem dX8_commonDivisor_14 : decode cX8_commonDivisor 14 = .ok (.iload_n 2, 1) := by decide +kernel
theorem dX8_commonDivisor_15 : decode cX8_commonDivisor 15 = .ok (.irem, 1) := by decide +kernel
theorem dX8_commonDivisor_16 : decode cX8_commonDivisor 16 = .ok (.ifCond .ne 5, 3) := by decide +kernel
theorem dX8_commonDivisor_19 : decode cX8_commonDivisor 19 = .ok (.iload_n 2, 1) := by decide +kernel
theorem dX8_commonDivisor_20 : decode cX8_commonDivisor 20 = .ok (.ireturn, 1) := by decide +kernel
theorem dX8_commonDivisor_21 : decode cX8_commonDivisor 21 = .ok (.iinc 2 (-1), 3) := by decide +kernel
theorem dX8_commonDivisor_24 : decode cX8_commonDivisor 24 = .ok (.goto (-22), 3) := by decide +kernel
theorem dX8_commonDivisor_27 : decode cX8_commonDivisor 27 = .ok (.iconst 1, 1) := by decide +kernel
theorem dX8_commonDivisor_28 : decode cX8_commonDivisor 28 = .ok (.ireturn, 1) := by decide +kernel
end
section
theorem dX9_init_0 : decode cX9_init 0 = .ok (.aload_n 0, 1) := by decide +kernel
theorem dX9_init_1 : decode cX9_init 1 = .ok (.invokespecial 1, 3) := by decide +kernel
theorem dX9_init_4 : decode cX9_init 4 = .ok (.aload_n 0, 1) := by decide +kernel
theorem dX9_init_5 : decode cX9_init 5 = .ok (.bipush 29, 2) := by decide +kernel
theorem dX9_init_7 : decode cX9_init 7 = .ok (.newarray .int, 2) := by decide +kernel
theorem dX9_init_9 : decode cX9_init 9 = .ok (.putfield 7, 3) := by decide +kernel
theorem dX9_init_12 : decode cX9_init 12 = .ok (.aload_n 0, 1) := by decide +kernel
theorem dX9_init_13 : decode cX9_init 13 = .ok (.bipush 29, 2) := by decide +kernel
theorem dX9_init_15 : decode cX9_init 15 = .ok (.newarray .int, 2) := by decide +kernel
theorem dX9_init_17 : decode cX9_init 17 = .ok (.putfield 13, 3) := by decide +kernel
theorem dX9_init_20 : decode cX9_init 20 = .ok (.aload_n 0, 1) := by decide +kernel
theorem dX9_init_21 : decode cX9_init 21 = .ok (.sipush 232, 3) := by decide +kernel
theorem dX9_init_24 : decode cX9_init 24 = .ok (.newarray .int, 2) := by decide +kernel
theorem dX9_init_26 : decode cX9_init 26 = .ok (.putfield 16, 3) := by decide +kernel
theorem dX9_init_29 : decode cX9_init 29 = .ok (.aload_n 0, 1) := by decide +kernel
theorem dX9_init_30 : decode cX9_init 30 = .ok (.bipush 60, 2) := by decide +kernel
theorem dX9_init_32 : decode cX9_init 32 = .ok (.newarray .int, 2) := by decide +kernel
theorem dX9_init_34 : decode cX9_init 34 = .ok (.putfield 19, 3) := by decide +kernel
theorem dX9_init_37 : decode cX9_init 37 = .ok (.aload_n 0, 1) := by decide +kernel
theorem dX9_init_38 : decode cX9_init 38 = .ok (.bipush 6, 2) := by decide +kernel
theorem dX9_init_40 : decode cX9_init 40 = .ok (.newarray .int, 2) := by decide +kernel
theorem dX9_init_42 : decode cX9_init 42 = .ok (.putfield 22, 3) := by decide +kernel
theorem dX9_init_45 : decode cX9_init 45 = .ok (.aload_n 0, 1) := by decide +kernel
theorem dX9_init_46 : decode cX9_init 46 = .ok (.sipush 324, 3) := by decide +kernel
theorem dX9_init_49 : decode cX9_init 49 = .ok (.newarray .long, 2) := by decide +kernel
theorem dX9_init_51 : decode cX9_init 51 = .ok (.putfield 25, 3) := by decide +kernel
theorem dX9_init_54 : decode cX9_init 54 = .ok (.aload_n 0, 1) := by decide +kernel
theorem dX9_init_55 : decode cX9_init 55 = .ok (.sipush 324, 3) := by decide +kernel
theorem dX9_init_58 : decode cX9_init 58 = .ok (.newarray .long, 2) := by decide +kernel
theorem dX9_init_60 : decode cX9_init 60 = .ok (.putfield 29, 3) := by decide +kernel
theorem dX9_init_63 : decode cX9_init 63 = .ok (.aload_n 0, 1) := by decide +kernel
theorem dX9_init_64 : decode cX9_init 64 = .ok (.sipush 324, 3) := by decide +kernel
theorem dX9_init_67 : decode cX9_init 67 = .ok (.newarray .long, 2) := by decide +kernel
theorem dX9_init_69 : decode cX9_init 69 = .ok (.putfield 32, 3) := by decide +kernel
theorem dX9_init_72 : decode cX9_init 72 = .ok (.aload_n 0, 1) := by decide +kernel
theorem dX9_init_73 : decode cX9_init 73 = .ok (.bipush 19, 2) := by decide +kernel
theorem dX9_init_75 : decode cX9_init 75 = .ok (.newarray .long, 2) := by decide +kernel
theorem dX9_init_77 : decode cX9_init 77 = .ok (.putfield 35, 3) := by decide +kernel
theorem dX9_init_80 : decode cX9_init 80 = .ok (.aload_n 0, 1) := by decide +kernel
theorem dX9_init_81 : decode cX9_init 81 = .ok (.bipush 19, 2) := by decide +kernel
theorem dX9_init_83 : decode cX9_init 83 = .ok (.newarray .long, 2) := by decide +kernel
theorem dX9_init_85 : decode cX9_init 85 = .ok (.putfield 38, 3) := by decide +kernel
theorem dX9_init_88 : decode cX9_init 88 = .ok (.aload_n 0, 1) := by decide +kernel
theorem dX9_init_89 : decode cX9_init 89 = .ok (.bipush 20, 2) := by decide +kernel
theorem dX9_init_91 : decode cX9_init 91 = .ok (.newarray .long, 2) := by decide +kernel
theorem dX9_init_93 : decode cX9_init 93 = .ok (.putfield 41, 3) := by decide +kernel
theorem dX9_init_96 : decode cX9_init 96 = .ok (.aload_n 0, 1) := by decide +kernel
theorem dX9_init_97 : decode cX9_init 97 = .ok (.bipush 18, 2) := by decide +kernel
theorem dX9_init_99 : decode cX9_init 99 = .ok (.newarray .long, 2) := by decide +kernel
theorem dX9_init_101 : decode cX9_init 101 = .ok (.putfield 44, 3) := by decide +kernel
theorem dX9_init_104 : decode cX9_init 104 = .ok (.aload_n 0, 1) := by decide +kernel
theorem dX9_init_105 : decode cX9_init 105 = .ok (.bipush 18, 2) := by decide +kernel
theorem dX9_init_107 : decode cX9_init 107 = .ok (.newarray .long, 2) := by decide +kernel
theorem dX9_init_109 : decode cX9_init 109 = .ok (.putfield 47, 3) := by decide +kernel
theorem dX9_init_112 : decode cX9_init 112 = .ok (.aload_n 0, 1) := by decide +kernel
theorem dX9_init_113 : decode cX9_init 113 = .ok (.bipush 19, 2) := by decide +kernel
theorem dX9_init_115 : decode cX9_init 115 = .ok (.newarray .long, 2) := by decide +kernel
theorem dX9_init_117 : decode cX9_init 117 = .ok (.putfield 50, 3) := by decide +kernel
theorem dX9_init_120 : decode cX9_init 120 = .ok (.aload_n 0, 1) := by decide +kernel
theorem dX9_init_121 : decode cX9_init 121 = .ok (.bipush 19, 2) := by decide +kernel
theorem dX9_init_123 : decode cX9_init 123 = .ok (.newarray .long, 2) := by decide +kernel
theorem dX9_init_125 : decode cX9_init 125 = .ok (.putfield 53, 3) := by decide +kernel
theorem dX9_init_128 : decode cX9_init 128 = .ok (.aload_n 0, 1) := by decide +kernel
theorem dX9_init_129 : decode cX9_init 129 = .ok (.bipush 19, 2) := by decide +kernel
theorem dX9_init_131 : decode cX9_init 131 = .ok (.newarray .long, 2) := by decide +kernel
theorem dX9_init_133 : decode cX9_init 133 = .ok (.putfield 56, 3) := by decide +kernel
theorem dX9_init_136 : decode cX9_init 136 = .ok (.aload_n 0, 1) := by decide +kernel
theorem dX9_init_137 : decode cX9_init 137 = .ok (.bipush 19, 2) := by decide +kernel
theorem dX9_init_139 : decode cX9_init 139 = .ok (.newarray .long, 2) := by decide +kernel
theorem dX9_init_141 : decode cX9_init 141 = .ok (.putfield 59, 3) := by decide +kernel
theorem dX9_init_144 : decode cX9_init 144 = .ok (.aload_n 0, 1) := by decide +kernel
theorem dX9_init_145 : decode cX9_init 145 = .ok (.iconst 5, 1) := by decide +kernel
theorem dX9_init_146 : decode cX9_init 146 = .ok (.newarray .int, 2) := by decide +kernel
theorem dX9_init_148 : decode cX9_init 148 = .ok (.putfield 62, 3) := by decide +kernel
theorem dX9_init_151 : decode cX9_init 151 = .ok (.aload_n 0, 1) := by decide +kernel
theorem dX9_init_152 : decode cX9_init 152 = .ok (.getfield 7, 3) := by decide +kernel
theorem dX9_init_155 : decode cX9_init 155 = .ok (.iconst 0, 1) := by decide +kernel
theorem dX9_init_156 : decode cX9_init 156 = .ok (.iconst 4, 1) := by decide +kernel
theorem dX9_init_157 : decode cX9_init 157 = .ok (.iastore, 1) := by decide +kernel
theorem dX9_init_158 : decode cX9_init 158 = .ok (.return_, 1) := by decide +kernel
theorem dX9_in_0 : decode cX9_in 0 = .ok (.iload_n 0, 1) := by decide +kernel
theorem dX9_in_1 : decode cX9_in 1 = .ok (.iload_n 1, 1) := by decide +kernel
theorem dX9_in_2 : decode cX9_in 2 = .ok (.if_icmp .lt 12, 3) := by decide +kernel
theorem dX9_in_5 : decode cX9_in 5 = .ok (.iload_n 0, 1) := by decide +kernel
theorem dX9_in_6 : decode cX9_in 6 = .ok (.iload_n 2, 1) := by decide +kernel
theorem dX9_in_7 : decode cX9_in 7 = .ok (.if_icmp .gt 7, 3) := by decide +kernel
theorem dX9_in_10 : decode cX9_in 10 = .ok (.iconst 1, 1) := by decide +kernel
theorem dX9_in_11 : decode cX9_in 11 = .ok (.goto 4, 3) := by decide +kernel
theorem dX9_in_14 : decode cX9_in 14 = .ok (.iconst 0, 1) := by decide +kernel
theorem dX9_in_15 : decode cX9_in 15 = .ok (.ireturn, 1) := by decide +kernel
theorem dX9_isVertex_0 : decode cX9_isVertex 0 = .ok (.iload_n 1, 1) := by decide +kernel
theorem dX9_isVertex_1 : decode cX9_isVertex 1 = .ok (.iconst 0, 1) := by decide +kernel
theorem dX9_isVertex_2 : decode cX9_isVertex 2 = .ok (.aload_n 0, 1) := by decide +kernel
theorem dX9_isVertex_3 : decode cX9_isVertex 3 = .ok (.getfield 7, 3) := by decide +kernel
theorem dX9_isVertex_6 : decode cX9_isVertex 6 = .ok (.iconst 0, 1) := by decide +kernel
theorem dX9_isVertex_7 : decode cX9_isVertex 7 = .ok (.iaload, 1) := by decide +kernel
theorem dX9_isVertex_8 : decode cX9_isVertex 8 = .ok (.iconst 1, 1) := by decide +kernel
theorem dX9_isVertex_9 : decode cX9_isVertex 9 = .ok (.isub, 1) := by decide +kernel
theorem dX9_isVertex_10 : decode cX9_isVertex 10 = .ok (.invokestatic 65, 3) := by decide +kernel
theorem dX9_isVertex_13 : decode cX9_isVertex 13 = .ok (.ireturn, 1) := by decide +kernel
theorem dX9_isEdge_0 : decode cX9_isEdge 0 = .ok (.iload_n 1, 1) := by decide +kernel
theorem dX9_isEdge_1 : decode cX9_isEdge 1 = .ok (.iconst 0, 1) := by decide +kernel
theorem dX9_isEdge_2 : decode cX9_isEdge 2 = .ok (.aload_n 0, 1) := by decide +kernel
theorem dX9_isEdge_3 : decode cX9_isEdge 3 = .ok (.getfield 7, 3) := by decide +kernel
theorem dX9_isEdge_6 : decode cX9_isEdge 6 = .ok (.iconst 1, 1) := by decide +kernel
theorem dX9_isEdge_7 : decode cX9_isEdge 7 = .ok (.iaload, 1) := by decide +kernel
theorem dX9_isEdge_8 : decode cX9_isEdge 8 = .ok (.iconst 1, 1) := by decide +kernel
theorem dX9_isEdge_9 : decode cX9_isEdge 9 = .ok (.isub, 1) := by decide +kernel
theorem dX9_isEdge_10 : decode cX9_isEdge 10 = .ok (.invokestatic 65, 3) := by decide +kernel
theorem dX9_isEdge_13 : decode cX9_isEdge 13 = .ok (.ireturn, 1) := by decide +kernel
theorem dX9_isDirected_0 : decode cX9_isDirected 0 = .ok (.iload_n 1, 1) := by decide +kernel
theorem dX9_isDirected_1 : decode cX9_isDirected 1 = .ok (.iconst 0, 1) := by decide +kernel
theorem dX9_isDirected_2 : decode cX9_isDirected 2 = .ok (.iconst 2, 1) := by decide +kernel
theorem dX9_isDirected_3 : decode cX9_isDirected 3 = .ok (.aload_n 0, 1) := by decide +kernel
theorem dX9_isDirected_4 : decode cX9_isDirected 4 = .ok (.getfield 7, 3) := by decide +kernel
theorem dX9_isDirected_7 : decode cX9_isDirected 7 = .ok (.iconst 1, 1) := by decide +kernel
theorem dX9_isDirected_8 : decode cX9_isDirected 8 = .ok (.iaload, 1) := by decide +kernel
theorem dX9_isDirected_9 : decode cX9_isDirected 9 = .ok (.imul, 1) := by decide +kernel
theorem dX9_isDirected_10 : decode cX9_isDirected 10 = .ok (.iconst 1, 1) := by decide +kernel
theorem dX9_isDirected_11 : decode cX9_isDirected 11 = .ok (.isub, 1) := by decide +kernel
theorem dX9_isDirected_12 : decode cX9_isDirected 12 = .ok (.invokestatic 65, 3) := by decide +kernel
theorem dX9_isDirected_15 : decode cX9_isDirected 15 = .ok (.ireturn, 1) := by decide +kernel
theorem dX9_save_0 : decode cX9_save 0 = .ok (.aload_n 0, 1) := by decide +kernel
theorem dX9_save_1 : decode cX9_save 1 = .ok (.getfield 69, 3) := by decide +kernel
theorem dX9_save_4 : decode cX9_save 4 = .ok (.bipush 8, 2) := by decide +kernel
theorem dX9_save_6 : decode cX9_save 6 = .ok (.if_icmp .ne 43, 3) := by decide +kernel
theorem dX9_save_9 : decode cX9_save 9 = .ok (.iconst 0, 1) := by decide +kernel
theorem dX9_save_10 : decode cX9_save 10 = .ok (.istore_n 1, 1) := by decide +kernel
theorem dX9_save_11 : decode cX9_save 11 = .ok (.iload_n 1, 1) := by decide +kernel
theorem dX9_save_12 : decode cX9_save 12 = .ok (.sipush 203, 3) := by decide +kernel
theorem dX9_save_15 : decode cX9_save 15 = .ok (.if_icmp .ge 24, 3) := by decide +kernel
theorem dX9_save_18 : decode cX9_save 18 = .ok (.aload_n 0, 1) := by decide +kernel
theorem dX9_save_19 : decode cX9_save 19 = .ok (.getfield 16, 3) := by decide +kernel
theorem dX9_save_22 : decode cX9_save 22 = .ok (.iload_n 1, 1) := by decide +kernel
theorem dX9_save_23 : decode cX9_save 23 = .ok (.aload_n 0, 1) := by decide +kernel
theorem dX9_save_24 : decode cX9_save 24 = .ok (.getfield 16, 3) := by decide +kernel
theorem dX9_save_27 : decode cX9_save 27 = .ok (.iload_n 1, 1) := by decide +kernel
theorem dX9_save_28 : decode cX9_save 28 = .ok (.bipush 29, 2) := by decide +kernel
theorem dX9_save_30 : decode cX9_save 30 = .ok (.iadd, 1) := by decide +kernel
theorem dX9_save_31 : decode cX9_save 31 = .ok (.iaload, 1) := by decide +kernel
theorem dX9_save_32 : decode cX9_save 32 = .ok (.iastore, 1) := by decide +kernel
theorem dX9_save_33 : decode cX9_save 33 = .ok (.iinc 1 1, 3) := by decide +kernel
theorem dX9_save_36 : decode cX9_save 36 = .ok (.goto (-25), 3) := by decide +kernel
theorem dX9_save_39 : decode cX9_save 39 = .ok (.aload_n 0, 1) := by decide +kernel
theorem dX9_save_40 : decode cX9_save 40 = .ok (.dup, 1) := by decide +kernel
theorem dX9_save_41 : decode cX9_save 41 = .ok (.getfield 69, 3) := by decide +kernel
theorem dX9_save_44 : decode cX9_save 44 = .ok (.iconst 1, 1) := by decide +kernel
theorem dX9_save_45 : decode cX9_save 45 = .ok (.isub, 1) := by decide +kernel
theorem dX9_save_46 : decode cX9_save 46 = .ok (.putfield 69, 3) := by decide +kernel
theorem dX9_save_49 : decode cX9_save 49 = .ok (.iconst 0, 1) := by decide +kernel
theorem dX9_save_50 : decode cX9_save 50 = .ok (.istore_n 1, 1) := by decide +kernel
theorem dX9_save_51 : decode cX9_save 51 = .ok (.iload_n 1, 1) := by decide +kernel
theorem dX9_save_52 : decode cX9_save 52 = .ok (.bipush 29, 2) := by decide +kernel
theorem dX9_save_54 : decode cX9_save 54 = .ok (.if_icmp .ge 29, 3) := by decide +kernel
theorem dX9_save_57 : decode cX9_save 57 = .ok (.aload_n 0, 1) := by decide +kernel
theorem dX9_save_58 : decode cX9_save 58 = .ok (.getfield 16, 3) := by decide +kernel
theorem dX9_save_61 : decode cX9_save 61 = .ok (.bipush 29, 2) := by decide +kernel
theorem dX9_save_63 : decode cX9_save 63 = .ok (.aload_n 0, 1) := by decide +kernel
theorem dX9_save_64 : decode cX9_save 64 = .ok (.getfield 69, 3) := by decide +kernel
theorem dX9_save_67 : decode cX9_save 67 = .ok (.imul, 1) := by decide +kernel
theorem dX9_save_68 : decode cX9_save 68 = .ok (.iload_n 1, 1) := by decide +kernel
theorem dX9_save_69 : decode cX9_save 69 = .ok (.iadd, 1) := by decide +kernel
theorem dX9_save_70 : decode cX9_save 70 = .ok (.aload_n 0, 1) := by decide +kernel
theorem dX9_save_71 : decode cX9_save 71 = .ok (.getfield 7, 3) := by decide +kernel
theorem dX9_save_74 : decode cX9_save 74 = .ok (.iload_n 1, 1) := by decide +kernel
theorem dX9_save_75 : decode cX9_save 75 = .ok (.iaload, 1) := by decide +kernel
theorem dX9_save_76 : decode cX9_save 76 = .ok (.iastore, 1) := by decide +kernel
theorem dX9_save_77 : decode cX9_save 77 = .ok (.iinc 1 1, 3) := by decide +kernel
theorem dX9_save_80 : decode cX9_save 80 = .ok (.goto (-29), 3) := by decide +kernel
theorem dX9_save_83 : decode cX9_save 83 = .ok (.aload_n 0, 1) := by decide +kernel
theorem dX9_save_84 : decode cX9_save 84 = .ok (.dup, 1) := by decide +kernel
theorem dX9_save_85 : decode cX9_save 85 = .ok (.getfield 69, 3) := by decide +kernel
theorem dX9_save_88 : decode cX9_save 88 = .ok (.iconst 1, 1) := by decide +kernel
theorem dX9_save_89 : decode cX9_save 89 = .ok (.iadd, 1) := by decide +kernel
theorem dX9_save_90 : decode cX9_save 90 = .ok (.putfield 69, 3) := by decide +kernel
theorem dX9_save_93 : decode cX9_save 93 = .ok (.return_, 1) := by decide +kernel
theorem dX9_configure_0 : decode cX9_configure 0 = .ok (.iload_n 1, 1) := by decide +kernel
theorem dX9_configure_1 : decode cX9_configure 1 = .ok (.iconst 1, 1) := by decide +kernel
theorem dX9_configure_2 : decode cX9_configure 2 = .ok (.bipush 6, 2) := by decide +kernel
theorem dX9_configure_4 : decode cX9_configure 4 = .ok (.invokestatic 65, 3) := by decide +kernel
theorem dX9_configure_7 : decode cX9_configure 7 = .ok (.ifCond .ne 5, 3) := by decide +kernel
theorem dX9_configure_10 : decode cX9_configure 10 = .ok (.iconst (-1), 1) := by decide +kernel
theorem dX9_configure_11 : decode cX9_configure 11 = .ok (.ireturn, 1) := by decide +kernel
theorem dX9_configure_12 : decode cX9_configure 12 = .ok (.aload_n 0, 1) := by decide +kernel
theorem dX9_configure_13 : decode cX9_configure 13 = .ok (.invokevirtual 73, 3) := by decide +kernel
theorem dX9_configure_16 : decode cX9_configure 16 = .ok (.aload_n 0, 1) := by decide +kernel
theorem dX9_configure_17 : decode cX9_configure 17 = .ok (.getfield 7, 3) := by decide +kernel
theorem dX9_configure_20 : decode cX9_configure 20 = .ok (.iconst 0, 1) := by decide +kernel
theorem dX9_configure_21 : decode cX9_configure 21 = .ok (.iaload, 1) := by decide +kernel
theorem dX9_configure_22 : decode cX9_configure 22 = .ok (.istore_n 2, 1) := by decide +kernel
theorem dX9_configure_23 : decode cX9_configure 23 = .ok (.aload_n 0, 1) := by decide +kernel
theorem dX9_configure_24 : decode cX9_configure 24 = .ok (.getfield 7, 3) := by decide +kernel
theorem dX9_configure_27 : decode cX9_configure 27 = .ok (.iconst 0, 1) := by decide +kernel
theorem dX9_configure_28 : decode cX9_configure 28 = .ok (.iload_n 1, 1) := by decide +kernel
theorem dX9_configure_29 : decode cX9_configure 29 = .ok (.iastore, 1) := by decide +kernel
theorem dX9_configure_30 : decode cX9_configure 30 = .ok (.aload_n 0, 1) := by decide +kernel
theorem dX9_configure_31 : decode cX9_configure 31 = .ok (.getfield 7, 3) := by decide +kernel
theorem dX9_configure_34 : decode cX9_configure 34 = .ok (.iconst 1, 1) := by decide +kernel
theorem dX9_configure_35 : decode cX9_configure 35 = .ok (.iconst 0, 1) := by decide +kernel
theorem dX9_configure_36 : decode cX9_configure 36 = .ok (.iastore, 1) := by decide +kernel
theorem dX9_configure_37 : decode cX9_configure 37 = .ok (.iload_n 2, 1) := by decide +kernel
theorem dX9_configure_38 : decode cX9_configure 38 = .ok (.ireturn, 1) := by decide +kernel
theorem dX9_addEdge_0 : decode cX9_addEdge 0 = .ok (.aload_n 0, 1) := by decide +kernel
theorem dX9_addEdge_1 : decode cX9_addEdge 1 = .ok (.iload_n 1, 1) := by decide +kernel
theorem dX9_addEdge_2 : decode cX9_addEdge 2 = .ok (.invokevirtual 76, 3) := by decide +kernel
theorem dX9_addEdge_5 : decode cX9_addEdge 5 = .ok (.ifCond .eq 26, 3) := by decide +kernel
theorem dX9_addEdge_8 : decode cX9_addEdge 8 = .ok (.aload_n 0, 1) := by decide +kernel
theorem dX9_addEdge_9 : decode cX9_addEdge 9 = .ok (.iload_n 2, 1) := by decide +kernel
theorem dX9_addEdge_10 : decode cX9_addEdge 10 = .ok (.invokevirtual 76, 3) := by decide +kernel
theorem dX9_addEdge_13 : decode cX9_addEdge 13 = .ok (.ifCond .eq 18, 3) := by decide +kernel
theorem dX9_addEdge_16 : decode cX9_addEdge 16 = .ok (.iload_n 1, 1) := by decide +kernel
theorem dX9_addEdge_17 : decode cX9_addEdge 17 = .ok (.iload_n 2, 1) := by decide +kernel
theorem dX9_addEdge_18 : decode cX9_addEdge 18 = .ok (.if_icmp .eq 13, 3) := by decide +kernel
theorem dX9_addEdge_21 : decode cX9_addEdge 21 = .ok (.iload_n 3, 1) := by decide +kernel
theorem dX9_addEdge_22 : decode cX9_addEdge 22 = .ok (.iconst 1, 1) := by decide +kernel
theorem dX9_addEdge_23 : decode cX9_addEdge 23 = .ok (.if_icmp .eq 10, 3) := by decide +kernel
theorem dX9_addEdge_26 : decode cX9_addEdge 26 = .ok (.iload_n 3, 1) := by decide +kernel
theorem dX9_addEdge_27 : decode cX9_addEdge 27 = .ok (.iconst (-1), 1) := by decide +kernel
theorem dX9_addEdge_28 : decode cX9_addEdge 28 = .ok (.if_icmp .eq 5, 3) := by decide +kernel
theorem dX9_addEdge_31 : decode cX9_addEdge 31 = .ok (.iconst (-1), 1) := by decide +kernel
theorem dX9_addEdge_32 : decode cX9_addEdge 32 = .ok (.ireturn, 1) := by decide +kernel
theorem dX9_addEdge_33 : decode cX9_addEdge 33 = .ok (.aload_n 0, 1) := by decide +kernel
theorem dX9_addEdge_34 : decode cX9_addEdge 34 = .ok (.getfield 7, 3) := by decide +kernel
theorem dX9_addEdge_37 : decode cX9_addEdge 37 = .ok (.iconst 1, 1) := by decide +kernel
theorem dX9_addEdge_38 : decode cX9_addEdge 38 = .ok (.iaload, 1) := by decide +kernel
theorem dX9_addEdge_39 : decode cX9_addEdge 39 = .ok (.bipush 9, 2) := by decide +kernel
theorem dX9_addEdge_41 : decode cX9_addEdge 41 = .ok (.if_icmp .ne 6, 3) := by decide +kernel
theorem dX9_addEdge_44 : decode cX9_addEdge 44 = .ok (.bipush (-3), 2) := by decide +kernel
theorem dX9_addEdge_46 : decode cX9_addEdge 46 = .ok (.ireturn, 1) := by decide +kernel
theorem dX9_addEdge_47 : decode cX9_addEdge 47 = .ok (.aload_n 0, 1) := by decide +kernel
theorem dX9_addEdge_48 : decode cX9_addEdge 48 = .ok (.invokevirtual 73, 3) := by decide +kernel
theorem dX9_addEdge_51 : decode cX9_addEdge 51 = .ok (.iconst 2, 1) := by decide +kernel
theorem dX9_addEdge_52 : decode cX9_addEdge 52 = .ok (.iconst 3, 1) := by decide +kernel
theorem dX9_addEdge_53 : decode cX9_addEdge 53 = .ok (.aload_n 0, 1) := by decide +kernel
theorem dX9_addEdge_54 : decode cX9_addEdge 54 = .ok (.getfield 7, 3) := by decide +kernel
theorem dX9_addEdge_57 : decode cX9_addEdge 57 = .ok (.iconst 1, 1) := by decide +kernel
theorem dX9_addEdge_58 : decode cX9_addEdge 58 = .ok (.iaload, 1) := by decide +kernel
theorem dX9_addEdge_59 : decode cX9_addEdge 59 = .ok (.imul, 1) := by decide +kernel
theorem dX9_addEdge_60 : decode cX9_addEdge 60 = .ok (.iadd, 1) := by decide +kernel
theorem dX9_addEdge_61 : decode cX9_addEdge 61 = .ok (.istore 4, 2) := by decide +kernel
theorem dX9_addEdge_63 : decode cX9_addEdge 63 = .ok (.aload_n 0, 1) := by decide +kernel
theorem dX9_addEdge_64 : decode cX9_addEdge 64 = .ok (.getfield 7, 3) := by decide +kernel
theorem dX9_addEdge_67 : decode cX9_addEdge 67 = .ok (.iload 4, 2) := by decide +kernel
theorem dX9_addEdge_69 : decode cX9_addEdge 69 = .ok (.iload_n 1, 1) := by decide +kernel
theorem dX9_addEdge_70 : decode cX9_addEdge 70 = .ok (.iastore, 1) := by decide +kernel
theorem dX9_addEdge_71 : decode cX9_addEdge 71 = .ok (.aload_n 0, 1) := by decide +kernel
theorem dX9_addEdge_72 : decode cX9_addEdge 72 = .ok (.getfield 7, 3) := by decide +kernel
theorem dX9_addEdge_75 : decode cX9_addEdge 75 = .ok (.iload 4, 2) := by decide +kernel
theorem dX9_addEdge_77 : decode cX9_addEdge 77 = .ok (.iconst 1, 1) := by decide +kernel
theorem dX9_addEdge_78 : decode cX9_addEdge 78 = .ok (.iadd, 1) := by decide +kernel
theorem dX9_addEdge_79 : decode cX9_addEdge 79 = .ok (.iload_n 2, 1) := by decide +kernel
theorem dX9_addEdge_80 : decode cX9_addEdge 80 = .ok (.iastore, 1) := by decide +kernel
theorem dX9_addEdge_81 : decode cX9_addEdge 81 = .ok (.aload_n 0, 1) := by decide +kernel
theorem dX9_addEdge_82 : decode cX9_addEdge 82 = .ok (.getfield 7, 3) := by decide +kernel
theorem dX9_addEdge_85 : decode cX9_addEdge 85 = .ok (.iload 4, 2) := by decide +kernel
theorem dX9_addEdge_87 : decode cX9_addEdge 87 = .ok (.iconst 2, 1) := by decide +kernel
theorem dX9_addEdge_88 : decode cX9_addEdge 88 = .ok (.iadd, 1) := by decide +kernel
theorem dX9_addEdge_89 : decode cX9_addEdge 89 = .ok (.iload_n 3, 1) := by decide +kernel
theorem dX9_addEdge_90 : decode cX9_addEdge 90 = .ok (.iastore, 1) := by decide +kernel
theorem dX9_addEdge_91 : decode cX9_addEdge 91 = .ok (.aload_n 0, 1) := by decide +kernel
theorem dX9_addEdge_92 : decode cX9_addEdge 92 = .ok (.getfield 7, 3) := by decide +kernel
theorem dX9_addEdge_95 : decode cX9_addEdge 95 = .ok (.iconst 1, 1) := by decide +kernel
theorem dX9_addEdge_96 : decode cX9_addEdge 96 = .ok (.dup2, 1) := by decide +kernel
theorem dX9_addEdge_97 : decode cX9_addEdge 97 = .ok (.iaload, 1) := by decide +kernel
theorem dX9_addEdge_98 : decode cX9_addEdge 98 = .ok (.iconst 1, 1) := by decide +kernel
theorem dX9_addEdge_99 : decode cX9_addEdge 99 = .ok (.iadd, 1) := by decide +kernel
theorem dX9_addEdge_100 : decode cX9_addEdge 100 = .ok (.iastore, 1) := by decide +kernel
theorem dX9_addEdge_101 : decode cX9_addEdge 101 = .ok (.aload_n 0, 1) := by decide +kernel
theorem dX9_addEdge_102 : decode cX9_addEdge 102 = .ok (.getfield 7, 3) := by decide +kernel
theorem dX9_addEdge_105 : decode cX9_addEdge 105 = .ok (.iconst 1, 1) := by decide +kernel
theorem dX9_addEdge_106 : decode cX9_addEdge 106 = .ok (.iaload, 1) := by decide +kernel
theorem dX9_addEdge_107 : decode cX9_addEdge 107 = .ok (.iconst 1, 1) := by decide +kernel
theorem dX9_addEdge_108 : decode cX9_addEdge 108 = .ok (.isub, 1) := by decide +kernel
theorem dX9_addEdge_109 : decode cX9_addEdge 109 = .ok (.ireturn, 1) := by decide +kernel
theorem dX9_removeEdge_0 : decode cX9_removeEdge 0 = .ok (.aload_n 0, 1) := by decide +kernel
theorem dX9_removeEdge_1 : decode cX9_removeEdge 1 = .ok (.iload_n 1, 1) := by decide +kernel
theorem dX9_removeEdge_2 : decode cX9_removeEdge 2 = .ok (.invokevirtual 80, 3) := by decide +kernel
theorem dX9_removeEdge_5 : decode cX9_removeEdge 5 = .ok (.ifCond .ne 5, 3) := by decide +kernel
theorem dX9_removeEdge_8 : decode cX9_removeEdge 8 = .ok (.iconst (-1), 1) := by decide +kernel
theorem dX9_removeEdge_9 : decode cX9_removeEdge 9 = .ok (.ireturn, 1) := by decide +kernel
theorem dX9_removeEdge_10 : decode cX9_removeEdge 10 = .ok (.aload_n 0, 1) := by decide +kernel
theorem dX9_removeEdge_11 : decode cX9_removeEdge 11 = .ok (.invokevirtual 73, 3) := by decide +kernel
theorem dX9_removeEdge_14 : decode cX9_removeEdge 14 = .ok (.aload_n 0, 1) := by decide +kernel
theorem dX9_removeEdge_15 : decode cX9_removeEdge 15 = .ok (.getfield 7, 3) := by decide +kernel
theorem dX9_removeEdge_18 : decode cX9_removeEdge 18 = .ok (.iconst 1, 1) := by decide +kernel
theorem dX9_removeEdge_19 : decode cX9_removeEdge 19 = .ok (.dup2, 1) := by decide +kernel
theorem dX9_removeEdge_20 : decode cX9_removeEdge 20 = .ok (.iaload, 1) := by decide +kernel
theorem dX9_removeEdge_21 : decode cX9_removeEdge 21 = .ok (.iconst 1, 1) := by decide +kernel
theorem dX9_removeEdge_22 : decode cX9_removeEdge 22 = .ok (.isub, 1) := by decide +kernel
theorem dX9_removeEdge_23 : decode cX9_removeEdge 23 = .ok (.iastore, 1) := by decide +kernel
theorem dX9_removeEdge_24 : decode cX9_removeEdge 24 = .ok (.iconst 2, 1) := by decide +kernel
theorem dX9_removeEdge_25 : decode cX9_removeEdge 25 = .ok (.iconst 3, 1) := by decide +kernel
theorem dX9_removeEdge_26 : decode cX9_removeEdge 26 = .ok (.iload_n 1, 1) := by decide +kernel
theorem dX9_removeEdge_27 : decode cX9_removeEdge 27 = .ok (.imul, 1) := by decide +kernel
theorem dX9_removeEdge_28 : decode cX9_removeEdge 28 = .ok (.iadd, 1) := by decide +kernel
theorem dX9_removeEdge_29 : decode cX9_removeEdge 29 = .ok (.istore_n 2, 1) := by decide +kernel
theorem dX9_removeEdge_30 : decode cX9_removeEdge 30 = .ok (.iload_n 2, 1) := by decide +kernel
theorem dX9_removeEdge_31 : decode cX9_removeEdge 31 = .ok (.iconst 2, 1) := by decide +kernel
theorem dX9_removeEdge_32 : decode cX9_removeEdge 32 = .ok (.iconst 3, 1) := by decide +kernel
theorem dX9_removeEdge_33 : decode cX9_removeEdge 33 = .ok (.aload_n 0, 1) := by decide +kernel
theorem dX9_removeEdge_34 : decode cX9_removeEdge 34 = .ok (.getfield 7, 3) := by decide +kernel
theorem dX9_removeEdge_37 : decode cX9_removeEdge 37 = .ok (.iconst 1, 1) := by decide +kernel
theorem dX9_removeEdge_38 : decode cX9_removeEdge 38 = .ok (.iaload, 1) := by decide +kernel
theorem dX9_removeEdge_39 : decode cX9_removeEdge 39 = .ok (.imul, 1) := by decide +kernel
theorem dX9_removeEdge_40 : decode cX9_removeEdge 40 = .ok (.iadd, 1) := by decide +kernel
theorem dX9_removeEdge_41 : decode cX9_removeEdge 41 = .ok (.if_icmp .ge 23, 3) := by decide +kernel
theorem dX9_removeEdge_44 : decode cX9_removeEdge 44 = .ok (.aload_n 0, 1) := by decide +kernel
theorem dX9_removeEdge_45 : decode cX9_removeEdge 45 = .ok (.getfield 7, 3) := by decide +kernel
theorem dX9_removeEdge_48 : decode cX9_removeEdge 48 = .ok (.iload_n 2, 1) := by decide +kernel
theorem dX9_removeEdge_49 : decode cX9_removeEdge 49 = .ok (.aload_n 0, 1) := by decide +kernel
theorem dX9_removeEdge_50 : decode cX9_removeEdge 50 = .ok (.getfield 7, 3) := by decide +kernel
theorem dX9_removeEdge_53 : decode cX9_removeEdge 53 = .ok (.iload_n 2, 1) := by decide +kernel
theorem dX9_removeEdge_54 : decode cX9_removeEdge 54 = .ok (.iconst 3, 1) := by decide +kernel
theorem dX9_removeEdge_55 : decode cX9_removeEdge 55 = .ok (.iadd, 1) := by decide +kernel
theorem dX9_removeEdge_56 : decode cX9_removeEdge 56 = .ok (.iaload, 1) := by decide +kernel
theorem dX9_removeEdge_57 : decode cX9_removeEdge 57 = .ok (.iastore, 1) := by decide +kernel
theorem dX9_removeEdge_58 : decode cX9_removeEdge 58 = .ok (.iinc 2 1, 3) := by decide +kernel
theorem dX9_removeEdge_61 : decode cX9_removeEdge 61 = .ok (.goto (-31), 3) := by decide +kernel
theorem dX9_removeEdge_64 : decode cX9_removeEdge 64 = .ok (.aload_n 0, 1) := by decide +kernel
theorem dX9_removeEdge_65 : decode cX9_removeEdge 65 = .ok (.getfield 7, 3) := by decide +kernel
theorem dX9_removeEdge_68 : decode cX9_removeEdge 68 = .ok (.iconst 1, 1) := by decide +kernel
theorem dX9_removeEdge_69 : decode cX9_removeEdge 69 = .ok (.iaload, 1) := by decide +kernel
theorem dX9_removeEdge_70 : decode cX9_removeEdge 70 = .ok (.ireturn, 1) := by decide +kernel
theorem dX9_flipSign_0 : decode cX9_flipSign 0 = .ok (.aload_n 0, 1) := by decide +kernel
theorem dX9_flipSign_1 : decode cX9_flipSign 1 = .ok (.iload_n 1, 1) := by decide +kernel
theorem dX9_flipSign_2 : decode cX9_flipSign 2 = .ok (.invokevirtual 80, 3) := by decide +kernel
theorem dX9_flipSign_5 : decode cX9_flipSign 5 = .ok (.ifCond .ne 5, 3) := by decide +kernel
theorem dX9_flipSign_8 : decode cX9_flipSign 8 = .ok (.iconst 0, 1) := by decide +kernel
theorem dX9_flipSign_9 : decode cX9_flipSign 9 = .ok (.ireturn, 1) := by decide +kernel
theorem dX9_flipSign_10 : decode cX9_flipSign 10 = .ok (.aload_n 0, 1) := by decide +kernel
theorem dX9_flipSign_11 : decode cX9_flipSign 11 = .ok (.invokevirtual 73, 3) := by decide +kernel
theorem dX9_flipSign_14 : decode cX9_flipSign 14 = .ok (.iconst 2, 1) := by decide +kernel
theorem dX9_flipSign_15 : decode cX9_flipSign 15 = .ok (.iconst 3, 1) := by decide +kernel
theorem dX9_flipSign_16 : decode cX9_flipSign 16 = .ok (.iload_n 1, 1) := by decide +kernel
theorem dX9_flipSign_17 : decode cX9_flipSign 17 = .ok (.imul, 1) := by decide +kernel
theorem dX9_flipSign_18 : decode cX9_flipSign 18 = .ok (.iadd, 1) := by decide +kernel
theorem dX9_flipSign_19 : decode cX9_flipSign 19 = .ok (.iconst 2, 1) := by decide +kernel
theorem dX9_flipSign_20 : decode cX9_flipSign 20 = .ok (.iadd, 1) := by decide +kernel
theorem dX9_flipSign_21 : decode cX9_flipSign 21 = .ok (.istore_n 2, 1) := by decide +kernel
theorem dX9_flipSign_22 : decode cX9_flipSign 22 = .ok (.aload_n 0, 1) := by decide +kernel
theorem dX9_flipSign_23 : decode cX9_flipSign 23 = .ok (.getfield 7, 3) := by decide +kernel
theorem dX9_flipSign_26 : decode cX9_flipSign 26 = .ok (.iload_n 2, 1) := by decide +kernel
theorem dX9_flipSign_27 : decode cX9_flipSign 27 = .ok (.aload_n 0, 1) := by decide +kernel
theorem dX9_flipSign_28 : decode cX9_flipSign 28 = .ok (.getfield 7, 3) := by decide +kernel
theorem dX9_flipSign_31 : decode cX9_flipSign 31 = .ok (.iload_n 2, 1) := by decide +kernel
theorem dX9_flipSign_32 : decode cX9_flipSign 32 = .ok (.iaload, 1) := by decide +kernel
theorem dX9_flipSign_33 : decode cX9_flipSign 33 = .ok (.ineg, 1) := by decide +kernel
theorem dX9_flipSign_34 : decode cX9_flipSign 34 = .ok (.iastore, 1) := by decide +kernel
theorem dX9_flipSign_35 : decode cX9_flipSign 35 = .ok (.aload_n 0, 1) := by decide +kernel
theorem dX9_flipSign_36 : decode cX9_flipSign 36 = .ok (.getfield 7, 3) := by decide +kernel
theorem dX9_flipSign_39 : decode cX9_flipSign 39 = .ok (.iload_n 2, 1) := by decide +kernel
theorem dX9_flipSign_40 : decode cX9_flipSign 40 = .ok (.iaload, 1) := by decide +kernel
theorem dX9_flipSign_41 : decode cX9_flipSign 41 = .ok (.ireturn, 1) := by decide +kernel
theorem dX9_appendCharacter_0 : decode cX9_appendCharacter 0 = .ok (.iload_n 1, 1) := by decide +kernel
theorem dX9_appendCharacter_1 : decode cX9_appendCharacter 1 = .ok (.iconst 0, 1) := by decide +kernel
theorem dX9_appendCharacter_2 : decode cX9_appendCharacter 2 = .ok (.sipush 255, 3) := by decide +kernel
theorem dX9_appendCharacter_5 : decode cX9_appendCharacter 5 = .ok (.invokestatic 65, 3) := by decide +kernel
theorem dX9_appendCharacter_8 : decode cX9_appendCharacter 8 = .ok (.ifCond .ne 5, 3) := by decide +kernel
theorem dX9_appendCharacter_11 : decode cX9_appendCharacter 11 = .ok (.iconst (-1), 1) := by decide +kernel
theorem dX9_appendCharacter_12 : decode cX9_appendCharacter 12 = .ok (.ireturn, 1) := by decide +kernel
theorem dX9_appendCharacter_13 : decode cX9_appendCharacter 13 = .ok (.aload_n 0, 1) := by decide +kernel
theorem dX9_appendCharacter_14 : decode cX9_appendCharacter 14 = .ok (.getfield 83, 3) := by decide +kernel
theorem dX9_appendCharacter_17 : decode cX9_appendCharacter 17 = .ok (.bipush 60, 2) := by decide +kernel
theorem dX9_appendCharacter_19 : decode cX9_appendCharacter 19 = .ok (.if_icmp .ne 6, 3) := by decide +kernel
theorem dX9_appendCharacter_22 : decode cX9_appendCharacter 22 = .ok (.bipush (-3), 2) := by decide +kernel
theorem dX9_appendCharacter_24 : decode cX9_appendCharacter 24 = .ok (.ireturn, 1) := by decide +kernel
theorem dX9_appendCharacter_25 : decode cX9_appendCharacter 25 = .ok (.aload_n 0, 1) := by decide +kernel
theorem dX9_appendCharacter_26 : decode cX9_appendCharacter 26 = .ok (.getfield 19, 3) := by decide +kernel
theorem dX9_appendCharacter_29 : decode cX9_appendCharacter 29 = .ok (.aload_n 0, 1) := by decide +kernel
theorem dX9_appendCharacter_30 : decode cX9_appendCharacter 30 = .ok (.getfield 83, 3) := by decide +kernel
theorem dX9_appendCharacter_33 : decode cX9_appendCharacter 33 = .ok (.iload_n 1, 1) := by decide +kernel
theorem dX9_appendCharacter_34 : decode cX9_appendCharacter 34 = .ok (.iastore, 1) := by decide +kernel
theorem dX9_appendCharacter_35 : decode cX9_appendCharacter 35 = .ok (.aload_n 0, 1) := by decide +kernel
theorem dX9_appendCharacter_36 : decode cX9_appendCharacter 36 = .ok (.dup, 1) := by decide +kernel
theorem dX9_appendCharacter_37 : decode cX9_appendCharacter 37 = .ok (.getfield 83, 3) := by decide +kernel
theorem dX9_appendCharacter_40 : decode cX9_appendCharacter 40 = .ok (.iconst 1, 1) := by decide +kernel
theorem dX9_appendCharacter_41 : decode cX9_appendCharacter 41 = .ok (.iadd, 1) := by decide +kernel
theorem dX9_appendCharacter_42 : decode cX9_appendCharacter 42 = .ok (.putfield 83, 3) := by decide +kernel
theorem dX9_appendCharacter_45 : decode cX9_appendCharacter 45 = .ok (.aload_n 0, 1) := by decide +kernel
theorem dX9_appendCharacter_46 : decode cX9_appendCharacter 46 = .ok (.getfield 83, 3) := by decide +kernel
theorem dX9_appendCharacter_49 : decode cX9_appendCharacter 49 = .ok (.ireturn, 1) := by decide +kernel
theorem dX9_clearText_0 : decode cX9_clearText 0 = .ok (.aload_n 0, 1) := by decide +kernel
theorem dX9_clearText_1 : decode cX9_clearText 1 = .ok (.getfield 83, 3) := by decide +kernel
theorem dX9_clearText_4 : decode cX9_clearText 4 = .ok (.istore_n 1, 1) := by decide +kernel
theorem dX9_clearText_5 : decode cX9_clearText 5 = .ok (.aload_n 0, 1) := by decide +kernel
theorem dX9_clearText_6 : decode cX9_clearText 6 = .ok (.iconst 0, 1) := by decide +kernel
theorem dX9_clearText_7 : decode cX9_clearText 7 = .ok (.putfield 83, 3) := by decide +kernel
theorem dX9_clearText_10 : decode cX9_clearText 10 = .ok (.iload_n 1, 1) := by decide +kernel
theorem dX9_clearText_11 : decode cX9_clearText 11 = .ok (.ireturn, 1) := by decide +kernel
theorem dX9_takes_0 : decode cX9_takes 0 = .ok (.iconst 2, 1) := by decide +kernel
theorem dX9_takes_1 : decode cX9_takes 1 = .ok (.iconst 3, 1) := by decide +kernel
theorem dX9_takes_2 : decode cX9_takes 2 = .ok (.aload_n 0, 1) := by decide +kernel
theorem dX9_takes_3 : decode cX9_takes 3 = .ok (.getfield 13, 3) := by decide +kernel
theorem dX9_takes_6 : decode cX9_takes 6 = .ok (.iconst 1, 1) := by decide +kernel
theorem dX9_takes_7 : decode cX9_takes 7 = .ok (.iaload, 1) := by decide +kernel
theorem dX9_takes_8 : decode cX9_takes 8 = .ok (.imul, 1) := by decide +kernel
theorem dX9_takes_9 : decode cX9_takes 9 = .ok (.iadd, 1) := by decide +kernel
theorem dX9_takes_10 : decode cX9_takes 10 = .ok (.istore_n 2, 1) := by decide +kernel
theorem dX9_takes_11 : decode cX9_takes 11 = .ok (.aload_n 0, 1) := by decide +kernel
theorem dX9_takes_12 : decode cX9_takes 12 = .ok (.getfield 86, 3) := by decide +kernel
theorem dX9_takes_15 : decode cX9_takes 15 = .ok (.tableswitch 142 0 2 #[25, 63, 100], 25) := by decide +kernel
theorem dX9_takes_40 : decode cX9_takes 40 = .ok (.aload_n 0, 1) := by decide +kernel
theorem dX9_takes_41 : decode cX9_takes 41 = .ok (.getfield 13, 3) := by decide +kernel
theorem dX9_takes_44 : decode cX9_takes 44 = .ok (.iload_n 2, 1) := by decide +kernel
theorem dX9_takes_45 : decode cX9_takes 45 = .ok (.iload_n 1, 1) := by decide +kernel
theorem dX9_takes_46 : decode cX9_takes 46 = .ok (.bipush 48, 2) := by decide +kernel
theorem dX9_takes_48 : decode cX9_takes 48 = .ok (.isub, 1) := by decide +kernel
theorem dX9_takes_49 : decode cX9_takes 49 = .ok (.iastore, 1) := by decide +kernel
theorem dX9_takes_50 : decode cX9_takes 50 = .ok (.aload_n 0, 1) := by decide +kernel
theorem dX9_takes_51 : decode cX9_takes 51 = .ok (.getfield 13, 3) := by decide +kernel
theorem dX9_takes_54 : decode cX9_takes 54 = .ok (.iconst 1, 1) := by decide +kernel
theorem dX9_takes_55 : decode cX9_takes 55 = .ok (.iaload, 1) := by decide +kernel
theorem dX9_takes_56 : decode cX9_takes 56 = .ok (.bipush 9, 2) := by decide +kernel
theorem dX9_takes_58 : decode cX9_takes 58 = .ok (.if_icmp .ge 18, 3) := by decide +kernel
theorem dX9_takes_61 : decode cX9_takes 61 = .ok (.aload_n 0, 1) := by decide +kernel
theorem dX9_takes_62 : decode cX9_takes 62 = .ok (.iload_n 1, 1) := by decide +kernel
theorem dX9_takes_63 : decode cX9_takes 63 = .ok (.bipush 48, 2) := by decide +kernel
theorem dX9_takes_65 : decode cX9_takes 65 = .ok (.isub, 1) := by decide +kernel
theorem dX9_takes_66 : decode cX9_takes 66 = .ok (.invokevirtual 76, 3) := by decide +kernel
theorem dX9_takes_69 : decode cX9_takes 69 = .ok (.ifCond .eq 7, 3) := by decide +kernel
theorem dX9_takes_72 : decode cX9_takes 72 = .ok (.iconst 1, 1) := by decide +kernel
theorem dX9_takes_73 : decode cX9_takes 73 = .ok (.goto 4, 3) := by decide +kernel
theorem dX9_takes_76 : decode cX9_takes 76 = .ok (.iconst 0, 1) := by decide +kernel
theorem dX9_takes_77 : decode cX9_takes 77 = .ok (.ireturn, 1) := by decide +kernel
theorem dX9_takes_78 : decode cX9_takes 78 = .ok (.aload_n 0, 1) := by decide +kernel
theorem dX9_takes_79 : decode cX9_takes 79 = .ok (.getfield 13, 3) := by decide +kernel
theorem dX9_takes_82 : decode cX9_takes 82 = .ok (.iload_n 2, 1) := by decide +kernel
theorem dX9_takes_83 : decode cX9_takes 83 = .ok (.iconst 2, 1) := by decide +kernel
theorem dX9_takes_84 : decode cX9_takes 84 = .ok (.iadd, 1) := by decide +kernel
theorem dX9_takes_85 : decode cX9_takes 85 = .ok (.iload_n 1, 1) := by decide +kernel
theorem dX9_takes_86 : decode cX9_takes 86 = .ok (.bipush 45, 2) := by decide +kernel
theorem dX9_takes_88 : decode cX9_takes 88 = .ok (.if_icmp .ne 7, 3) := by decide +kernel
theorem dX9_takes_91 : decode cX9_takes 91 = .ok (.iconst 1, 1) := by decide +kernel
theorem dX9_takes_92 : decode cX9_takes 92 = .ok (.goto 4, 3) := by decide +kernel
theorem dX9_takes_95 : decode cX9_takes 95 = .ok (.iconst (-1), 1) := by decide +kernel
theorem dX9_takes_96 : decode cX9_takes 96 = .ok (.iastore, 1) := by decide +kernel
theorem dX9_takes_97 : decode cX9_takes 97 = .ok (.iload_n 1, 1) := by decide +kernel
theorem dX9_takes_98 : decode cX9_takes 98 = .ok (.bipush 45, 2) := by decide +kernel
theorem dX9_takes_100 : decode cX9_takes 100 = .ok (.if_icmp .eq 9, 3) := by decide +kernel
theorem dX9_takes_103 : decode cX9_takes 103 = .ok (.iload_n 1, 1) := by decide +kernel
theorem dX9_takes_104 : decode cX9_takes 104 = .ok (.bipush 126, 2) := by decide +kernel
theorem dX9_takes_106 : decode cX9_takes 106 = .ok (.if_icmp .ne 7, 3) := by decide +kernel
theorem dX9_takes_109 : decode cX9_takes 109 = .ok (.iconst 1, 1) := by decide +kernel
theorem dX9_takes_110 : decode cX9_takes 110 = .ok (.goto 4, 3) := by decide +kernel
theorem dX9_takes_113 : decode cX9_takes 113 = .ok (.iconst 0, 1) := by decide +kernel
theorem dX9_takes_114 : decode cX9_takes 114 = .ok (.ireturn, 1) := by decide +kernel
theorem dX9_takes_115 : decode cX9_takes 115 = .ok (.aload_n 0, 1) := by decide +kernel
theorem dX9_takes_116 : decode cX9_takes 116 = .ok (.getfield 13, 3) := by decide +kernel
theorem dX9_takes_119 : decode cX9_takes 119 = .ok (.iload_n 2, 1) := by decide +kernel
theorem dX9_takes_120 : decode cX9_takes 120 = .ok (.iconst 1, 1) := by decide +kernel
theorem dX9_takes_121 : decode cX9_takes 121 = .ok (.iadd, 1) := by decide +kernel
theorem dX9_takes_122 : decode cX9_takes 122 = .ok (.iload_n 1, 1) := by decide +kernel
theorem dX9_takes_123 : decode cX9_takes 123 = .ok (.bipush 48, 2) := by decide +kernel
theorem dX9_takes_125 : decode cX9_takes 125 = .ok (.isub, 1) := by decide +kernel
theorem dX9_takes_126 : decode cX9_takes 126 = .ok (.iastore, 1) := by decide +kernel
theorem dX9_takes_127 : decode cX9_takes 127 = .ok (.aload_n 0, 1) := by decide +kernel
theorem dX9_takes_128 : decode cX9_takes 128 = .ok (.iload_n 1, 1) := by decide +kernel
theorem dX9_takes_129 : decode cX9_takes 129 = .ok (.bipush 48, 2) := by decide +kernel
theorem dX9_takes_131 : decode cX9_takes 131 = .ok (.isub, 1) := by decide +kernel
theorem dX9_takes_132 : decode cX9_takes 132 = .ok (.invokevirtual 76, 3) := by decide +kernel
theorem dX9_takes_135 : decode cX9_takes 135 = .ok (.ifCond .eq 20, 3) := by decide +kernel
theorem dX9_takes_138 : decode cX9_takes 138 = .ok (.aload_n 0, 1) := by decide +kernel
theorem dX9_takes_139 : decode cX9_takes 139 = .ok (.getfield 13, 3) := by decide +kernel
theorem dX9_takes_142 : decode cX9_takes 142 = .ok (.iload_n 2, 1) := by decide +kernel
theorem dX9_takes_143 : decode cX9_takes 143 = .ok (.iaload, 1) := by decide +kernel
theorem dX9_takes_144 : decode cX9_takes 144 = .ok (.iload_n 1, 1) := by decide +kernel
theorem dX9_takes_145 : decode cX9_takes 145 = .ok (.bipush 48, 2) := by decide +kernel
theorem dX9_takes_147 : decode cX9_takes 147 = .ok (.isub, 1) := by decide +kernel
theorem dX9_takes_148 : decode cX9_takes 148 = .ok (.if_icmp .eq 7, 3) := by decide +kernel
theorem dX9_takes_151 : decode cX9_takes 151 = .ok (.iconst 1, 1) := by decide +kernel
theorem dX9_takes_152 : decode cX9_takes 152 = .ok (.goto 4, 3) := by decide +kernel
theorem dX9_takes_155 : decode cX9_takes 155 = .ok (.iconst 0, 1) := by decide +kernel
theorem dX9_takes_156 : decode cX9_takes 156 = .ok (.ireturn, 1) := by decide +kernel
theorem dX9_takes_157 : decode cX9_takes 157 = .ok (.iload_n 1, 1) := by decide +kernel
theorem dX9_takes_158 : decode cX9_takes 158 = .ok (.bipush 59, 2) := by decide +kernel
theorem dX9_takes_160 : decode cX9_takes 160 = .ok (.if_icmp .ne 7, 3) := by decide +kernel
theorem dX9_takes_163 : decode cX9_takes 163 = .ok (.iconst 1, 1) := by decide +kernel
theorem dX9_takes_164 : decode cX9_takes 164 = .ok (.goto 4, 3) := by decide +kernel
theorem dX9_takes_167 : decode cX9_takes 167 = .ok (.iconst 0, 1) := by decide +kernel
theorem dX9_takes_168 : decode cX9_takes 168 = .ok (.ireturn, 1) := by decide +kernel
theorem dX9_reads_0 : decode cX9_reads 0 = .ok (.aload_n 0, 1) := by decide +kernel
theorem dX9_reads_1 : decode cX9_reads 1 = .ok (.getfield 13, 3) := by decide +kernel
theorem dX9_reads_4 : decode cX9_reads 4 = .ok (.iconst 0, 1) := by decide +kernel
theorem dX9_reads_5 : decode cX9_reads 5 = .ok (.aload_n 0, 1) := by decide +kernel
theorem dX9_reads_6 : decode cX9_reads 6 = .ok (.getfield 7, 3) := by decide +kernel
theorem dX9_reads_9 : decode cX9_reads 9 = .ok (.iconst 0, 1) := by decide +kernel
theorem dX9_reads_10 : decode cX9_reads 10 = .ok (.iaload, 1) := by decide +kernel
theorem dX9_reads_11 : decode cX9_reads 11 = .ok (.iastore, 1) := by decide +kernel
theorem dX9_reads_12 : decode cX9_reads 12 = .ok (.aload_n 0, 1) := by decide +kernel
theorem dX9_reads_13 : decode cX9_reads 13 = .ok (.getfield 13, 3) := by decide +kernel
theorem dX9_reads_16 : decode cX9_reads 16 = .ok (.iconst 1, 1) := by decide +kernel
theorem dX9_reads_17 : decode cX9_reads 17 = .ok (.iconst 0, 1) := by decide +kernel
theorem dX9_reads_18 : decode cX9_reads 18 = .ok (.iastore, 1) := by decide +kernel
theorem dX9_reads_19 : decode cX9_reads 19 = .ok (.aload_n 0, 1) := by decide +kernel
theorem dX9_reads_20 : decode cX9_reads 20 = .ok (.iconst 0, 1) := by decide +kernel
theorem dX9_reads_21 : decode cX9_reads 21 = .ok (.putfield 86, 3) := by decide +kernel
theorem dX9_reads_24 : decode cX9_reads 24 = .ok (.iconst 0, 1) := by decide +kernel
theorem dX9_reads_25 : decode cX9_reads 25 = .ok (.istore_n 1, 1) := by decide +kernel
theorem dX9_reads_26 : decode cX9_reads 26 = .ok (.iload_n 1, 1) := by decide +kernel
theorem dX9_reads_27 : decode cX9_reads 27 = .ok (.aload_n 0, 1) := by decide +kernel
theorem dX9_reads_28 : decode cX9_reads 28 = .ok (.getfield 83, 3) := by decide +kernel
theorem dX9_reads_31 : decode cX9_reads 31 = .ok (.if_icmp .ge 79, 3) := by decide +kernel
theorem dX9_reads_34 : decode cX9_reads 34 = .ok (.aload_n 0, 1) := by decide +kernel
theorem dX9_reads_35 : decode cX9_reads 35 = .ok (.getfield 19, 3) := by decide +kernel
theorem dX9_reads_38 : decode cX9_reads 38 = .ok (.iload_n 1, 1) := by decide +kernel
theorem dX9_reads_39 : decode cX9_reads 39 = .ok (.iaload, 1) := by decide +kernel
theorem dX9_reads_40 : decode cX9_reads 40 = .ok (.bipush 32, 2) := by decide +kernel
theorem dX9_reads_42 : decode cX9_reads 42 = .ok (.if_icmp .eq 62, 3) := by decide +kernel
theorem dX9_reads_45 : decode cX9_reads 45 = .ok (.aload_n 0, 1) := by decide +kernel
theorem dX9_reads_46 : decode cX9_reads 46 = .ok (.getfield 13, 3) := by decide +kernel
theorem dX9_reads_49 : decode cX9_reads 49 = .ok (.iconst 1, 1) := by decide +kernel
theorem dX9_reads_50 : decode cX9_reads 50 = .ok (.iaload, 1) := by decide +kernel
theorem dX9_reads_51 : decode cX9_reads 51 = .ok (.bipush 9, 2) := by decide +kernel
theorem dX9_reads_53 : decode cX9_reads 53 = .ok (.if_icmp .eq 16, 3) := by decide +kernel
theorem dX9_reads_56 : decode cX9_reads 56 = .ok (.aload_n 0, 1) := by decide +kernel
theorem dX9_reads_57 : decode cX9_reads 57 = .ok (.aload_n 0, 1) := by decide +kernel
theorem dX9_reads_58 : decode cX9_reads 58 = .ok (.getfield 19, 3) := by decide +kernel
theorem dX9_reads_61 : decode cX9_reads 61 = .ok (.iload_n 1, 1) := by decide +kernel
theorem dX9_reads_62 : decode cX9_reads 62 = .ok (.iaload, 1) := by decide +kernel
theorem dX9_reads_63 : decode cX9_reads 63 = .ok (.invokevirtual 89, 3) := by decide +kernel
theorem dX9_reads_66 : decode cX9_reads 66 = .ok (.ifCond .ne 5, 3) := by decide +kernel
theorem dX9_reads_69 : decode cX9_reads 69 = .ok (.iload_n 1, 1) := by decide +kernel
theorem dX9_reads_70 : decode cX9_reads 70 = .ok (.ireturn, 1) := by decide +kernel
theorem dX9_reads_71 : decode cX9_reads 71 = .ok (.aload_n 0, 1) := by decide +kernel
theorem dX9_reads_72 : decode cX9_reads 72 = .ok (.aload_n 0, 1) := by decide +kernel
theorem dX9_reads_73 : decode cX9_reads 73 = .ok (.getfield 86, 3) := by decide +kernel
theorem dX9_reads_76 : decode cX9_reads 76 = .ok (.iconst 1, 1) := by decide +kernel
theorem dX9_reads_77 : decode cX9_reads 77 = .ok (.iadd, 1) := by decide +kernel
theorem dX9_reads_78 : decode cX9_reads 78 = .ok (.iconst 4, 1) := by decide +kernel
theorem dX9_reads_79 : decode cX9_reads 79 = .ok (.irem, 1) := by decide +kernel
theorem dX9_reads_80 : decode cX9_reads 80 = .ok (.putfield 86, 3) := by decide +kernel
theorem dX9_reads_83 : decode cX9_reads 83 = .ok (.aload_n 0, 1) := by decide +kernel
theorem dX9_reads_84 : decode cX9_reads 84 = .ok (.getfield 13, 3) := by decide +kernel
theorem dX9_reads_87 : decode cX9_reads 87 = .ok (.iconst 1, 1) := by decide +kernel
theorem dX9_reads_88 : decode cX9_reads 88 = .ok (.dup2, 1) := by decide +kernel
theorem dX9_reads_89 : decode cX9_reads 89 = .ok (.iaload, 1) := by decide +kernel
theorem dX9_reads_90 : decode cX9_reads 90 = .ok (.aload_n 0, 1) := by decide +kernel
theorem dX9_reads_91 : decode cX9_reads 91 = .ok (.getfield 86, 3) := by decide +kernel
theorem dX9_reads_94 : decode cX9_reads 94 = .ok (.ifCond .ne 7, 3) := by decide +kernel
theorem dX9_reads_97 : decode cX9_reads 97 = .ok (.iconst 1, 1) := by decide +kernel
theorem dX9_reads_98 : decode cX9_reads 98 = .ok (.goto 4, 3) := by decide +kernel
theorem dX9_reads_101 : decode cX9_reads 101 = .ok (.iconst 0, 1) := by decide +kernel
theorem dX9_reads_102 : decode cX9_reads 102 = .ok (.iadd, 1) := by decide +kernel
theorem dX9_reads_103 : decode cX9_reads 103 = .ok (.iastore, 1) := by decide +kernel
theorem dX9_reads_104 : decode cX9_reads 104 = .ok (.iinc 1 1, 3) := by decide +kernel
theorem dX9_reads_107 : decode cX9_reads 107 = .ok (.goto (-81), 3) := by decide +kernel
theorem dX9_reads_110 : decode cX9_reads 110 = .ok (.aload_n 0, 1) := by decide +kernel
theorem dX9_reads_111 : decode cX9_reads 111 = .ok (.getfield 86, 3) := by decide +kernel
theorem dX9_reads_114 : decode cX9_reads 114 = .ok (.ifCond .ne 8, 3) := by decide +kernel
theorem dX9_reads_117 : decode cX9_reads 117 = .ok (.bipush (-9), 2) := by decide +kernel
theorem dX9_reads_119 : decode cX9_reads 119 = .ok (.goto 7, 3) := by decide +kernel
theorem dX9_reads_122 : decode cX9_reads 122 = .ok (.aload_n 0, 1) := by decide +kernel
theorem dX9_reads_123 : decode cX9_reads 123 = .ok (.getfield 83, 3) := by decide +kernel
theorem dX9_reads_126 : decode cX9_reads 126 = .ok (.ireturn, 1) := by decide +kernel
theorem dX9_loadGraph_0 : decode cX9_loadGraph 0 = .ok (.aload_n 0, 1) := by decide +kernel
theorem dX9_loadGraph_1 : decode cX9_loadGraph 1 = .ok (.invokevirtual 92, 3) := by decide +kernel
theorem dX9_loadGraph_4 : decode cX9_loadGraph 4 = .ok (.istore_n 1, 1) := by decide +kernel
theorem dX9_loadGraph_5 : decode cX9_loadGraph 5 = .ok (.iload_n 1, 1) := by decide +kernel
theorem dX9_loadGraph_6 : decode cX9_loadGraph 6 = .ok (.bipush (-9), 2) := by decide +kernel
theorem dX9_loadGraph_8 : decode cX9_loadGraph 8 = .ok (.if_icmp .eq 8, 3) := by decide +kernel
theorem dX9_loadGraph_11 : decode cX9_loadGraph 11 = .ok (.bipush (-10), 2) := by decide +kernel
theorem dX9_loadGraph_13 : decode cX9_loadGraph 13 = .ok (.iload_n 1, 1) := by decide +kernel
theorem dX9_loadGraph_14 : decode cX9_loadGraph 14 = .ok (.isub, 1) := by decide +kernel
theorem dX9_loadGraph_15 : decode cX9_loadGraph 15 = .ok (.ireturn, 1) := by decide +kernel
theorem dX9_loadGraph_16 : decode cX9_loadGraph 16 = .ok (.aload_n 0, 1) := by decide +kernel
theorem dX9_loadGraph_17 : decode cX9_loadGraph 17 = .ok (.invokevirtual 73, 3) := by decide +kernel
theorem dX9_loadGraph_20 : decode cX9_loadGraph 20 = .ok (.iconst 0, 1) := by decide +kernel
theorem dX9_loadGraph_21 : decode cX9_loadGraph 21 = .ok (.istore_n 2, 1) := by decide +kernel
theorem dX9_loadGraph_22 : decode cX9_loadGraph 22 = .ok (.iload_n 2, 1) := by decide +kernel
theorem dX9_loadGraph_23 : decode cX9_loadGraph 23 = .ok (.bipush 29, 2) := by decide +kernel
theorem dX9_loadGraph_25 : decode cX9_loadGraph 25 = .ok (.if_icmp .ge 21, 3) := by decide +kernel
theorem dX9_loadGraph_28 : decode cX9_loadGraph 28 = .ok (.aload_n 0, 1) := by decide +kernel
theorem dX9_loadGraph_29 : decode cX9_loadGraph 29 = .ok (.getfield 7, 3) := by decide +kernel
theorem dX9_loadGraph_32 : decode cX9_loadGraph 32 = .ok (.iload_n 2, 1) := by decide +kernel
theorem dX9_loadGraph_33 : decode cX9_loadGraph 33 = .ok (.aload_n 0, 1) := by decide +kernel
theorem dX9_loadGraph_34 : decode cX9_loadGraph 34 = .ok (.getfield 13, 3) := by decide +kernel
theorem dX9_loadGraph_37 : decode cX9_loadGraph 37 = .ok (.iload_n 2, 1) := by decide +kernel
theorem dX9_loadGraph_38 : decode cX9_loadGraph 38 = .ok (.iaload, 1) := by decide +kernel
theorem dX9_loadGraph_39 : decode cX9_loadGraph 39 = .ok (.iastore, 1) := by decide +kernel
theorem dX9_loadGraph_40 : decode cX9_loadGraph 40 = .ok (.iinc 2 1, 3) := by decide +kernel
theorem dX9_loadGraph_43 : decode cX9_loadGraph 43 = .ok (.goto (-21), 3) := by decide +kernel
theorem dX9_loadGraph_46 : decode cX9_loadGraph 46 = .ok (.aload_n 0, 1) := by decide +kernel
theorem dX9_loadGraph_47 : decode cX9_loadGraph 47 = .ok (.iconst 0, 1) := by decide +kernel
theorem dX9_loadGraph_48 : decode cX9_loadGraph 48 = .ok (.putfield 83, 3) := by decide +kernel
theorem dX9_loadGraph_51 : decode cX9_loadGraph 51 = .ok (.aload_n 0, 1) := by decide +kernel
theorem dX9_loadGraph_52 : decode cX9_loadGraph 52 = .ok (.getfield 7, 3) := by decide +kernel
theorem dX9_loadGraph_55 : decode cX9_loadGraph 55 = .ok (.iconst 1, 1) := by decide +kernel
theorem dX9_loadGraph_56 : decode cX9_loadGraph 56 = .ok (.iaload, 1) := by decide +kernel
theorem dX9_loadGraph_57 : decode cX9_loadGraph 57 = .ok (.ireturn, 1) := by decide +kernel
theorem dX9_undo_0 : decode cX9_undo 0 = .ok (.aload_n 0, 1) := by decide +kernel
theorem dX9_undo_1 : decode cX9_undo 1 = .ok (.getfield 69, 3) := by decide +kernel
theorem dX9_undo_4 : decode cX9_undo 4 = .ok (.ifCond .ne 6, 3) := by decide +kernel
theorem dX9_undo_7 : decode cX9_undo 7 = .ok (.bipush (-2), 2) := by decide +kernel
theorem dX9_undo_9 : decode cX9_undo 9 = .ok (.ireturn, 1) := by decide +kernel
theorem dX9_undo_10 : decode cX9_undo 10 = .ok (.aload_n 0, 1) := by decide +kernel
theorem dX9_undo_11 : decode cX9_undo 11 = .ok (.dup, 1) := by decide +kernel
theorem dX9_undo_12 : decode cX9_undo 12 = .ok (.getfield 69, 3) := by decide +kernel
theorem dX9_undo_15 : decode cX9_undo 15 = .ok (.iconst 1, 1) := by decide +kernel
theorem dX9_undo_16 : decode cX9_undo 16 = .ok (.isub, 1) := by decide +kernel
theorem dX9_undo_17 : decode cX9_undo 17 = .ok (.putfield 69, 3) := by decide +kernel
theorem dX9_undo_20 : decode cX9_undo 20 = .ok (.iconst 0, 1) := by decide +kernel
theorem dX9_undo_21 : decode cX9_undo 21 = .ok (.istore_n 1, 1) := by decide +kernel
theorem dX9_undo_22 : decode cX9_undo 22 = .ok (.iload_n 1, 1) := by decide +kernel
theorem dX9_undo_23 : decode cX9_undo 23 = .ok (.bipush 29, 2) := by decide +kernel
theorem dX9_undo_25 : decode cX9_undo 25 = .ok (.if_icmp .ge 29, 3) := by decide +kernel
theorem dX9_undo_28 : decode cX9_undo 28 = .ok (.aload_n 0, 1) := by decide +kernel
theorem dX9_undo_29 : decode cX9_undo 29 = .ok (.getfield 7, 3) := by decide +kernel
theorem dX9_undo_32 : decode cX9_undo 32 = .ok (.iload_n 1, 1) := by decide +kernel
theorem dX9_undo_33 : decode cX9_undo 33 = .ok (.aload_n 0, 1) := by decide +kernel
theorem dX9_undo_34 : decode cX9_undo 34 = .ok (.getfield 16, 3) := by decide +kernel
theorem dX9_undo_37 : decode cX9_undo 37 = .ok (.bipush 29, 2) := by decide +kernel
theorem dX9_undo_39 : decode cX9_undo 39 = .ok (.aload_n 0, 1) := by decide +kernel
theorem dX9_undo_40 : decode cX9_undo 40 = .ok (.getfield 69, 3) := by decide +kernel
theorem dX9_undo_43 : decode cX9_undo 43 = .ok (.imul, 1) := by decide +kernel
theorem dX9_undo_44 : decode cX9_undo 44 = .ok (.iload_n 1, 1) := by decide +kernel
theorem dX9_undo_45 : decode cX9_undo 45 = .ok (.iadd, 1) := by decide +kernel
theorem dX9_undo_46 : decode cX9_undo 46 = .ok (.iaload, 1) := by decide +kernel
theorem dX9_undo_47 : decode cX9_undo 47 = .ok (.iastore, 1) := by decide +kernel
theorem dX9_undo_48 : decode cX9_undo 48 = .ok (.iinc 1 1, 3) := by decide +kernel
theorem dX9_undo_51 : decode cX9_undo 51 = .ok (.goto (-29), 3) := by decide +kernel
theorem dX9_undo_54 : decode cX9_undo 54 = .ok (.aload_n 0, 1) := by decide +kernel
theorem dX9_undo_55 : decode cX9_undo 55 = .ok (.getfield 69, 3) := by decide +kernel
theorem dX9_undo_58 : decode cX9_undo 58 = .ok (.ireturn, 1) := by decide +kernel
theorem dX9_vertexCount_0 : decode cX9_vertexCount 0 = .ok (.aload_n 0, 1) := by decide +kernel
theorem dX9_vertexCount_1 : decode cX9_vertexCount 1 = .ok (.getfield 7, 3) := by decide +kernel
theorem dX9_vertexCount_4 : decode cX9_vertexCount 4 = .ok (.iconst 0, 1) := by decide +kernel
theorem dX9_vertexCount_5 : decode cX9_vertexCount 5 = .ok (.iaload, 1) := by decide +kernel
theorem dX9_vertexCount_6 : decode cX9_vertexCount 6 = .ok (.ireturn, 1) := by decide +kernel
theorem dX9_edgeCount_0 : decode cX9_edgeCount 0 = .ok (.aload_n 0, 1) := by decide +kernel
theorem dX9_edgeCount_1 : decode cX9_edgeCount 1 = .ok (.getfield 7, 3) := by decide +kernel
theorem dX9_edgeCount_4 : decode cX9_edgeCount 4 = .ok (.iconst 1, 1) := by decide +kernel
theorem dX9_edgeCount_5 : decode cX9_edgeCount 5 = .ok (.iaload, 1) := by decide +kernel
theorem dX9_edgeCount_6 : decode cX9_edgeCount 6 = .ok (.ireturn, 1) := by decide +kernel
theorem dX9_endOf_0 : decode cX9_endOf 0 = .ok (.aload_n 0, 1) := by decide +kernel
theorem dX9_endOf_1 : decode cX9_endOf 1 = .ok (.getfield 7, 3) := by decide +kernel
theorem dX9_endOf_4 : decode cX9_endOf 4 = .ok (.iconst 2, 1) := by decide +kernel
theorem dX9_endOf_5 : decode cX9_endOf 5 = .ok (.iconst 3, 1) := by decide +kernel
theorem dX9_endOf_6 : decode cX9_endOf 6 = .ok (.iload_n 1, 1) := by decide +kernel
theorem dX9_endOf_7 : decode cX9_endOf 7 = .ok (.iconst 2, 1) := by decide +kernel
theorem dX9_endOf_8 : decode cX9_endOf 8 = .ok (.idiv, 1) := by decide +kernel
theorem dX9_endOf_9 : decode cX9_endOf 9 = .ok (.imul, 1) := by decide +kernel
theorem dX9_endOf_10 : decode cX9_endOf 10 = .ok (.iadd, 1) := by decide +kernel
theorem dX9_endOf_11 : decode cX9_endOf 11 = .ok (.iload_n 1, 1) := by decide +kernel
theorem dX9_endOf_12 : decode cX9_endOf 12 = .ok (.iconst 2, 1) := by decide +kernel
theorem dX9_endOf_13 : decode cX9_endOf 13 = .ok (.irem, 1) := by decide +kernel
theorem dX9_endOf_14 : decode cX9_endOf 14 = .ok (.ifCond .ne 7, 3) := by decide +kernel
theorem dX9_endOf_17 : decode cX9_endOf 17 = .ok (.iload_n 2, 1) := by decide +kernel
theorem dX9_endOf_18 : decode cX9_endOf 18 = .ok (.goto 6, 3) := by decide +kernel
theorem dX9_endOf_21 : decode cX9_endOf 21 = .ok (.iconst 1, 1) := by decide +kernel
theorem dX9_endOf_22 : decode cX9_endOf 22 = .ok (.iload_n 2, 1) := by decide +kernel
theorem dX9_endOf_23 : decode cX9_endOf 23 = .ok (.isub, 1) := by decide +kernel
theorem dX9_endOf_24 : decode cX9_endOf 24 = .ok (.iadd, 1) := by decide +kernel
theorem dX9_endOf_25 : decode cX9_endOf 25 = .ok (.iaload, 1) := by decide +kernel
theorem dX9_endOf_26 : decode cX9_endOf 26 = .ok (.ireturn, 1) := by decide +kernel
theorem dX9_signOf_0 : decode cX9_signOf 0 = .ok (.aload_n 0, 1) := by decide +kernel
theorem dX9_signOf_1 : decode cX9_signOf 1 = .ok (.getfield 7, 3) := by decide +kernel
theorem dX9_signOf_4 : decode cX9_signOf 4 = .ok (.iconst 2, 1) := by decide +kernel
theorem dX9_signOf_5 : decode cX9_signOf 5 = .ok (.iconst 3, 1) := by decide +kernel
theorem dX9_signOf_6 : decode cX9_signOf 6 = .ok (.iload_n 1, 1) := by decide +kernel
theorem dX9_signOf_7 : decode cX9_signOf 7 = .ok (.iconst 2, 1) := by decide +kernel
theorem dX9_signOf_8 : decode cX9_signOf 8 = .ok (.idiv, 1) := by decide +kernel
theorem dX9_signOf_9 : decode cX9_signOf 9 = .ok (.imul, 1) := by decide +kernel
theorem dX9_signOf_10 : decode cX9_signOf 10 = .ok (.iadd, 1) := by decide +kernel
theorem dX9_signOf_11 : decode cX9_signOf 11 = .ok (.iconst 2, 1) := by decide +kernel
theorem dX9_signOf_12 : decode cX9_signOf 12 = .ok (.iadd, 1) := by decide +kernel
theorem dX9_signOf_13 : decode cX9_signOf 13 = .ok (.iaload, 1) := by decide +kernel
theorem dX9_signOf_14 : decode cX9_signOf 14 = .ok (.ireturn, 1) := by decide +kernel
theorem dX9_isNext_0 : decode cX9_isNext 0 = .ok (.aload_n 0, 1) := by decide +kernel
theorem dX9_isNext_1 : decode cX9_isNext 1 = .ok (.iload_n 1, 1) := by decide +kernel
theorem dX9_isNext_2 : decode cX9_isNext 2 = .ok (.iconst 1, 1) := by decide +kernel
theorem dX9_isNext_3 : decode cX9_isNext 3 = .ok (.invokevirtual 96, 3) := by decide +kernel
theorem dX9_isNext_6 : decode cX9_isNext 6 = .ok (.aload_n 0, 1) := by decide +kernel
theorem dX9_isNext_7 : decode cX9_isNext 7 = .ok (.iload_n 2, 1) := by decide +kernel
theorem dX9_isNext_8 : decode cX9_isNext 8 = .ok (.iconst 0, 1) := by decide +kernel
theorem dX9_isNext_9 : decode cX9_isNext 9 = .ok (.invokevirtual 96, 3) := by decide +kernel
theorem dX9_isNext_12 : decode cX9_isNext 12 = .ok (.if_icmp .ne 14, 3) := by decide +kernel
theorem dX9_isNext_15 : decode cX9_isNext 15 = .ok (.iload_n 2, 1) := by decide +kernel
theorem dX9_isNext_16 : decode cX9_isNext 16 = .ok (.iload_n 1, 1) := by decide +kernel
theorem dX9_isNext_17 : decode cX9_isNext 17 = .ok (.iconst 1, 1) := by decide +kernel
theorem dX9_isNext_18 : decode cX9_isNext 18 = .ok (.ixor, 1) := by decide +kernel
theorem dX9_isNext_19 : decode cX9_isNext 19 = .ok (.if_icmp .eq 7, 3) := by decide +kernel
theorem dX9_isNext_22 : decode cX9_isNext 22 = .ok (.iconst 1, 1) := by decide +kernel
theorem dX9_isNext_23 : decode cX9_isNext 23 = .ok (.goto 4, 3) := by decide +kernel
theorem dX9_isNext_26 : decode cX9_isNext 26 = .ok (.iconst 0, 1) := by decide +kernel
theorem dX9_isNext_27 : decode cX9_isNext 27 = .ok (.ireturn, 1) := by decide +kernel
theorem dX9_headOf_0 : decode cX9_headOf 0 = .ok (.aload_n 0, 1) := by decide +kernel
theorem dX9_headOf_1 : decode cX9_headOf 1 = .ok (.iload_n 1, 1) := by decide +kernel
theorem dX9_headOf_2 : decode cX9_headOf 2 = .ok (.invokevirtual 100, 3) := by decide +kernel
theorem dX9_headOf_5 : decode cX9_headOf 5 = .ok (.ifCond .eq 12, 3) := by decide +kernel
theorem dX9_headOf_8 : decode cX9_headOf 8 = .ok (.aload_n 0, 1) := by decide +kernel
theorem dX9_headOf_9 : decode cX9_headOf 9 = .ok (.iload_n 1, 1) := by decide +kernel
theorem dX9_headOf_10 : decode cX9_headOf 10 = .ok (.iconst 1, 1) := by decide +kernel
theorem dX9_headOf_11 : decode cX9_headOf 11 = .ok (.invokevirtual 96, 3) := by decide +kernel
theorem dX9_headOf_14 : decode cX9_headOf 14 = .ok (.goto 4, 3) := by decide +kernel
theorem dX9_headOf_17 : decode cX9_headOf 17 = .ok (.iconst (-1), 1) := by decide +kernel
theorem dX9_headOf_18 : decode cX9_headOf 18 = .ok (.ireturn, 1) := by decide +kernel
theorem dX9_follows_0 : decode cX9_follows 0 = .ok (.aload_n 0, 1) := by decide +kernel
theorem dX9_follows_1 : decode cX9_follows 1 = .ok (.iload_n 1, 1) := by decide +kernel
theorem dX9_follows_2 : decode cX9_follows 2 = .ok (.invokevirtual 100, 3) := by decide +kernel
theorem dX9_follows_5 : decode cX9_follows 5 = .ok (.ifCond .eq 11, 3) := by decide +kernel
theorem dX9_follows_8 : decode cX9_follows 8 = .ok (.aload_n 0, 1) := by decide +kernel
theorem dX9_follows_9 : decode cX9_follows 9 = .ok (.iload_n 2, 1) := by decide +kernel
theorem dX9_follows_10 : decode cX9_follows 10 = .ok (.invokevirtual 100, 3) := by decide +kernel
theorem dX9_follows_13 : decode cX9_follows 13 = .ok (.ifCond .ne 5, 3) := by decide +kernel
theorem dX9_follows_16 : decode cX9_follows 16 = .ok (.iconst (-1), 1) := by decide +kernel
theorem dX9_follows_17 : decode cX9_follows 17 = .ok (.ireturn, 1) := by decide +kernel
theorem dX9_follows_18 : decode cX9_follows 18 = .ok (.aload_n 0, 1) := by decide +kernel
theorem dX9_follows_19 : decode cX9_follows 19 = .ok (.iload_n 1, 1) := by decide +kernel
theorem dX9_follows_20 : decode cX9_follows 20 = .ok (.iload_n 2, 1) := by decide +kernel
theorem dX9_follows_21 : decode cX9_follows 21 = .ok (.invokevirtual 103, 3) := by decide +kernel
theorem dX9_follows_24 : decode cX9_follows 24 = .ok (.ifCond .eq 7, 3) := by decide +kernel
theorem dX9_follows_27 : decode cX9_follows 27 = .ok (.iconst 1, 1) := by decide +kernel
theorem dX9_follows_28 : decode cX9_follows 28 = .ok (.goto 4, 3) := by decide +kernel
theorem dX9_follows_31 : decode cX9_follows 31 = .ok (.iconst 0, 1) := by decide +kernel
theorem dX9_follows_32 : decode cX9_follows 32 = .ok (.ireturn, 1) := by decide +kernel
theorem dX9_degreeOf_0 : decode cX9_degreeOf 0 = .ok (.iconst 0, 1) := by decide +kernel
theorem dX9_degreeOf_1 : decode cX9_degreeOf 1 = .ok (.istore_n 2, 1) := by decide +kernel
theorem dX9_degreeOf_2 : decode cX9_degreeOf 2 = .ok (.iconst 0, 1) := by decide +kernel
theorem dX9_degreeOf_3 : decode cX9_degreeOf 3 = .ok (.istore_n 3, 1) := by decide +kernel
theorem dX9_degreeOf_4 : decode cX9_degreeOf 4 = .ok (.iload_n 3, 1) := by decide +kernel
theorem dX9_degreeOf_5 : decode cX9_degreeOf 5 = .ok (.iconst 2, 1) := by decide +kernel
theorem dX9_degreeOf_6 : decode cX9_degreeOf 6 = .ok (.aload_n 0, 1) := by decide +kernel
theorem dX9_degreeOf_7 : decode cX9_degreeOf 7 = .ok (.getfield 7, 3) := by decide +kernel
theorem dX9_degreeOf_10 : decode cX9_degreeOf 10 = .ok (.iconst 1, 1) := by decide +kernel
theorem dX9_degreeOf_11 : decode cX9_degreeOf 11 = .ok (.iaload, 1) := by decide +kernel
theorem dX9_degreeOf_12 : decode cX9_degreeOf 12 = .ok (.imul, 1) := by decide +kernel
theorem dX9_degreeOf_13 : decode cX9_degreeOf 13 = .ok (.if_icmp .ge 27, 3) := by decide +kernel
theorem dX9_degreeOf_16 : decode cX9_degreeOf 16 = .ok (.iload_n 2, 1) := by decide +kernel
theorem dX9_degreeOf_17 : decode cX9_degreeOf 17 = .ok (.aload_n 0, 1) := by decide +kernel
theorem dX9_degreeOf_18 : decode cX9_degreeOf 18 = .ok (.iload_n 3, 1) := by decide +kernel
theorem dX9_degreeOf_19 : decode cX9_degreeOf 19 = .ok (.iconst 0, 1) := by decide +kernel
theorem dX9_degreeOf_20 : decode cX9_degreeOf 20 = .ok (.invokevirtual 96, 3) := by decide +kernel
theorem dX9_degreeOf_23 : decode cX9_degreeOf 23 = .ok (.iload_n 1, 1) := by decide +kernel
theorem dX9_degreeOf_24 : decode cX9_degreeOf 24 = .ok (.if_icmp .ne 7, 3) := by decide +kernel
theorem dX9_degreeOf_27 : decode cX9_degreeOf 27 = .ok (.iconst 1, 1) := by decide +kernel
theorem dX9_degreeOf_28 : decode cX9_degreeOf 28 = .ok (.goto 4, 3) := by decide +kernel
theorem dX9_degreeOf_31 : decode cX9_degreeOf 31 = .ok (.iconst 0, 1) := by decide +kernel
theorem dX9_degreeOf_32 : decode cX9_degreeOf 32 = .ok (.iadd, 1) := by decide +kernel
theorem dX9_degreeOf_33 : decode cX9_degreeOf 33 = .ok (.istore_n 2, 1) := by decide +kernel
theorem dX9_degreeOf_34 : decode cX9_degreeOf 34 = .ok (.iinc 3 1, 3) := by decide +kernel
theorem dX9_degreeOf_37 : decode cX9_degreeOf 37 = .ok (.goto (-33), 3) := by decide +kernel
theorem dX9_degreeOf_40 : decode cX9_degreeOf 40 = .ok (.iload_n 2, 1) := by decide +kernel
theorem dX9_degreeOf_41 : decode cX9_degreeOf 41 = .ok (.ireturn, 1) := by decide +kernel
theorem dX9_degree_0 : decode cX9_degree 0 = .ok (.aload_n 0, 1) := by decide +kernel
theorem dX9_degree_1 : decode cX9_degree 1 = .ok (.iload_n 1, 1) := by decide +kernel
theorem dX9_degree_2 : decode cX9_degree 2 = .ok (.invokevirtual 76, 3) := by decide +kernel
theorem dX9_degree_5 : decode cX9_degree 5 = .ok (.ifCond .eq 11, 3) := by decide +kernel
theorem dX9_degree_8 : decode cX9_degree 8 = .ok (.aload_n 0, 1) := by decide +kernel
theorem dX9_degree_9 : decode cX9_degree 9 = .ok (.iload_n 1, 1) := by decide +kernel
theorem dX9_degree_10 : decode cX9_degree 10 = .ok (.invokevirtual 107, 3) := by decide +kernel
theorem dX9_degree_13 : decode cX9_degree 13 = .ok (.goto 4, 3) := by decide +kernel
theorem dX9_degree_16 : decode cX9_degree 16 = .ok (.iconst (-1), 1) := by decide +kernel
theorem dX9_degree_17 : decode cX9_degree 17 = .ok (.ireturn, 1) := by decide +kernel
theorem dX9_partsNow_0 : decode cX9_partsNow 0 = .ok (.iconst 0, 1) := by decide +kernel
theorem dX9_partsNow_1 : decode cX9_partsNow 1 = .ok (.istore_n 1, 1) := by decide +kernel
theorem dX9_partsNow_2 : decode cX9_partsNow 2 = .ok (.iload_n 1, 1) := by decide +kernel
theorem dX9_partsNow_3 : decode cX9_partsNow 3 = .ok (.aload_n 0, 1) := by decide +kernel
theorem dX9_partsNow_4 : decode cX9_partsNow 4 = .ok (.getfield 7, 3) := by decide +kernel
theorem dX9_partsNow_7 : decode cX9_partsNow 7 = .ok (.iconst 0, 1) := by decide +kernel
theorem dX9_partsNow_8 : decode cX9_partsNow 8 = .ok (.iaload, 1) := by decide +kernel
theorem dX9_partsNow_9 : decode cX9_partsNow 9 = .ok (.if_icmp .ge 16, 3) := by decide +kernel
theorem dX9_partsNow_12 : decode cX9_partsNow 12 = .ok (.aload_n 0, 1) := by decide +kernel
theorem dX9_partsNow_13 : decode cX9_partsNow 13 = .ok (.getfield 22, 3) := by decide +kernel
theorem dX9_partsNow_16 : decode cX9_partsNow 16 = .ok (.iload_n 1, 1) := by decide +kernel
theorem dX9_partsNow_17 : decode cX9_partsNow 17 = .ok (.iload_n 1, 1) := by decide +kernel
theorem dX9_partsNow_18 : decode cX9_partsNow 18 = .ok (.iastore, 1) := by decide +kernel
theorem dX9_partsNow_19 : decode cX9_partsNow 19 = .ok (.iinc 1 1, 3) := by decide +kernel
theorem dX9_partsNow_22 : decode cX9_partsNow 22 = .ok (.goto (-20), 3) := by decide +kernel
theorem dX9_partsNow_25 : decode cX9_partsNow 25 = .ok (.aload_n 0, 1) := by decide +kernel
theorem dX9_partsNow_26 : decode cX9_partsNow 26 = .ok (.getfield 7, 3) := by decide +kernel
theorem dX9_partsNow_29 : decode cX9_partsNow 29 = .ok (.iconst 0, 1) := by decide +kernel
theorem dX9_partsNow_30 : decode cX9_partsNow 30 = .ok (.iaload, 1) := by decide +kernel
theorem dX9_partsNow_31 : decode cX9_partsNow 31 = .ok (.istore_n 1, 1) := by decide +kernel
theorem dX9_partsNow_32 : decode cX9_partsNow 32 = .ok (.iconst 0, 1) := by decide +kernel
theorem dX9_partsNow_33 : decode cX9_partsNow 33 = .ok (.istore_n 2, 1) := by decide +kernel
theorem dX9_partsNow_34 : decode cX9_partsNow 34 = .ok (.iload_n 2, 1) := by decide +kernel
theorem dX9_partsNow_35 : decode cX9_partsNow 35 = .ok (.aload_n 0, 1) := by decide +kernel
theorem dX9_partsNow_36 : decode cX9_partsNow 36 = .ok (.getfield 7, 3) := by decide +kernel
theorem dX9_partsNow_39 : decode cX9_partsNow 39 = .ok (.iconst 1, 1) := by decide +kernel
theorem dX9_partsNow_40 : decode cX9_partsNow 40 = .ok (.iaload, 1) := by decide +kernel
theorem dX9_partsNow_41 : decode cX9_partsNow 41 = .ok (.if_icmp .ge 102, 3) := by decide +kernel
theorem dX9_partsNow_44 : decode cX9_partsNow 44 = .ok (.aload_n 0, 1) := by decide +kernel
theorem dX9_partsNow_45 : decode cX9_partsNow 45 = .ok (.getfield 22, 3) := by decide +kernel
theorem dX9_partsNow_48 : decode cX9_partsNow 48 = .ok (.aload_n 0, 1) := by decide +kernel
theorem dX9_partsNow_49 : decode cX9_partsNow 49 = .ok (.iconst 2, 1) := by decide +kernel
theorem dX9_partsNow_50 : decode cX9_partsNow 50 = .ok (.iload_n 2, 1) := by decide +kernel
theorem dX9_partsNow_51 : decode cX9_partsNow 51 = .ok (.imul, 1) := by decide +kernel
theorem dX9_partsNow_52 : decode cX9_partsNow 52 = .ok (.iconst 0, 1) := by decide +kernel
theorem dX9_partsNow_53 : decode cX9_partsNow 53 = .ok (.invokevirtual 96, 3) := by decide +kernel
theorem dX9_partsNow_56 : decode cX9_partsNow 56 = .ok (.iaload, 1) := by decide +kernel
theorem dX9_partsNow_57 : decode cX9_partsNow 57 = .ok (.istore_n 3, 1) := by decide +kernel
theorem dX9_partsNow_58 : decode cX9_partsNow 58 = .ok (.aload_n 0, 1) := by decide +kernel
theorem dX9_partsNow_59 : decode cX9_partsNow 59 = .ok (.getfield 22, 3) := by decide +kernel
theorem dX9_partsNow_62 : decode cX9_partsNow 62 = .ok (.aload_n 0, 1) := by decide +kernel
theorem dX9_partsNow_63 : decode cX9_partsNow 63 = .ok (.iconst 2, 1) := by decide +kernel
theorem dX9_partsNow_64 : decode cX9_partsNow 64 = .ok (.iload_n 2, 1) := by decide +kernel
theorem dX9_partsNow_65 : decode cX9_partsNow 65 = .ok (.imul, 1) := by decide +kernel
theorem dX9_partsNow_66 : decode cX9_partsNow 66 = .ok (.iconst 1, 1) := by decide +kernel
theorem dX9_partsNow_67 : decode cX9_partsNow 67 = .ok (.invokevirtual 96, 3) := by decide +kernel
theorem dX9_partsNow_70 : decode cX9_partsNow 70 = .ok (.iaload, 1) := by decide +kernel
theorem dX9_partsNow_71 : decode cX9_partsNow 71 = .ok (.istore 4, 2) := by decide +kernel
theorem dX9_partsNow_73 : decode cX9_partsNow 73 = .ok (.iload_n 1, 1) := by decide +kernel
theorem dX9_partsNow_74 : decode cX9_partsNow 74 = .ok (.iload_n 3, 1) := by decide +kernel
theorem dX9_partsNow_75 : decode cX9_partsNow 75 = .ok (.iload 4, 2) := by decide +kernel
theorem dX9_partsNow_77 : decode cX9_partsNow 77 = .ok (.if_icmp .ne 7, 3) := by decide +kernel
theorem dX9_partsNow_80 : decode cX9_partsNow 80 = .ok (.iconst 0, 1) := by decide +kernel
theorem dX9_partsNow_81 : decode cX9_partsNow 81 = .ok (.goto 4, 3) := by decide +kernel
theorem dX9_partsNow_84 : decode cX9_partsNow 84 = .ok (.iconst 1, 1) := by decide +kernel
theorem dX9_partsNow_85 : decode cX9_partsNow 85 = .ok (.isub, 1) := by decide +kernel
theorem dX9_partsNow_86 : decode cX9_partsNow 86 = .ok (.istore_n 1, 1) := by decide +kernel
theorem dX9_partsNow_87 : decode cX9_partsNow 87 = .ok (.iconst 0, 1) := by decide +kernel
theorem dX9_partsNow_88 : decode cX9_partsNow 88 = .ok (.istore 5, 2) := by decide +kernel
theorem dX9_partsNow_90 : decode cX9_partsNow 90 = .ok (.iload 5, 2) := by decide +kernel
theorem dX9_partsNow_92 : decode cX9_partsNow 92 = .ok (.aload_n 0, 1) := by decide +kernel
theorem dX9_partsNow_93 : decode cX9_partsNow 93 = .ok (.getfield 7, 3) := by decide +kernel
theorem dX9_partsNow_96 : decode cX9_partsNow 96 = .ok (.iconst 0, 1) := by decide +kernel
theorem dX9_partsNow_97 : decode cX9_partsNow 97 = .ok (.iaload, 1) := by decide +kernel
theorem dX9_partsNow_98 : decode cX9_partsNow 98 = .ok (.if_icmp .ge 39, 3) := by decide +kernel
theorem dX9_partsNow_101 : decode cX9_partsNow 101 = .ok (.aload_n 0, 1) := by decide +kernel
theorem dX9_partsNow_102 : decode cX9_partsNow 102 = .ok (.getfield 22, 3) := by decide +kernel
theorem dX9_partsNow_105 : decode cX9_partsNow 105 = .ok (.iload 5, 2) := by decide +kernel
theorem dX9_partsNow_107 : decode cX9_partsNow 107 = .ok (.aload_n 0, 1) := by decide +kernel
theorem dX9_partsNow_108 : decode cX9_partsNow 108 = .ok (.getfield 22, 3) := by decide +kernel
theorem dX9_partsNow_111 : decode cX9_partsNow 111 = .ok (.iload 5, 2) := by decide +kernel
theorem dX9_partsNow_113 : decode cX9_partsNow 113 = .ok (.iaload, 1) := by decide +kernel
theorem dX9_partsNow_114 : decode cX9_partsNow 114 = .ok (.iload_n 3, 1) := by decide +kernel
theorem dX9_partsNow_115 : decode cX9_partsNow 115 = .ok (.if_icmp .ne 8, 3) := by decide +kernel
theorem dX9_partsNow_118 : decode cX9_partsNow 118 = .ok (.iload 4, 2) := by decide +kernel
theorem dX9_partsNow_120 : decode cX9_partsNow 120 = .ok (.goto 10, 3) := by decide +kernel
theorem dX9_partsNow_123 : decode cX9_partsNow 123 = .ok (.aload_n 0, 1) := by decide +kernel
theorem dX9_partsNow_124 : decode cX9_partsNow 124 = .ok (.getfield 22, 3) := by decide +kernel
theorem dX9_partsNow_127 : decode cX9_partsNow 127 = .ok (.iload 5, 2) := by decide +kernel
theorem dX9_partsNow_129 : decode cX9_partsNow 129 = .ok (.iaload, 1) := by decide +kernel
theorem dX9_partsNow_130 : decode cX9_partsNow 130 = .ok (.iastore, 1) := by decide +kernel
theorem dX9_partsNow_131 : decode cX9_partsNow 131 = .ok (.iinc 5 1, 3) := by decide +kernel
theorem dX9_partsNow_134 : decode cX9_partsNow 134 = .ok (.goto (-44), 3) := by decide +kernel
theorem dX9_partsNow_137 : decode cX9_partsNow 137 = .ok (.iinc 2 1, 3) := by decide +kernel
theorem dX9_partsNow_140 : decode cX9_partsNow 140 = .ok (.goto (-106), 3) := by decide +kernel
theorem dX9_partsNow_143 : decode cX9_partsNow 143 = .ok (.iload_n 1, 1) := by decide +kernel
theorem dX9_partsNow_144 : decode cX9_partsNow 144 = .ok (.ireturn, 1) := by decide +kernel
theorem dX9_components_0 : decode cX9_components 0 = .ok (.aload_n 0, 1) := by decide +kernel
theorem dX9_components_1 : decode cX9_components 1 = .ok (.invokevirtual 111, 3) := by decide +kernel
theorem dX9_components_4 : decode cX9_components 4 = .ok (.ireturn, 1) := by decide +kernel
theorem dX9_rank_0 : decode cX9_rank 0 = .ok (.aload_n 0, 1) := by decide +kernel
theorem dX9_rank_1 : decode cX9_rank 1 = .ok (.getfield 7, 3) := by decide +kernel
theorem dX9_rank_4 : decode cX9_rank 4 = .ok (.iconst 1, 1) := by decide +kernel
theorem dX9_rank_5 : decode cX9_rank 5 = .ok (.iaload, 1) := by decide +kernel
theorem dX9_rank_6 : decode cX9_rank 6 = .ok (.aload_n 0, 1) := by decide +kernel
theorem dX9_rank_7 : decode cX9_rank 7 = .ok (.getfield 7, 3) := by decide +kernel
theorem dX9_rank_10 : decode cX9_rank 10 = .ok (.iconst 0, 1) := by decide +kernel
theorem dX9_rank_11 : decode cX9_rank 11 = .ok (.iaload, 1) := by decide +kernel
theorem dX9_rank_12 : decode cX9_rank 12 = .ok (.isub, 1) := by decide +kernel
theorem dX9_rank_13 : decode cX9_rank 13 = .ok (.aload_n 0, 1) := by decide +kernel
theorem dX9_rank_14 : decode cX9_rank 14 = .ok (.invokevirtual 111, 3) := by decide +kernel
theorem dX9_rank_17 : decode cX9_rank 17 = .ok (.iadd, 1) := by decide +kernel
theorem dX9_rank_18 : decode cX9_rank 18 = .ok (.ireturn, 1) := by decide +kernel
theorem dX9_isBalanced_0 : decode cX9_isBalanced 0 = .ok (.iconst 0, 1) := by decide +kernel
theorem dX9_isBalanced_1 : decode cX9_isBalanced 1 = .ok (.istore_n 1, 1) := by decide +kernel
theorem dX9_isBalanced_2 : decode cX9_isBalanced 2 = .ok (.iload_n 1, 1) := by decide +kernel
theorem dX9_isBalanced_3 : decode cX9_isBalanced 3 = .ok (.iconst 1, 1) := by decide +kernel
theorem dX9_isBalanced_4 : decode cX9_isBalanced 4 = .ok (.aload_n 0, 1) := by decide +kernel
theorem dX9_isBalanced_5 : decode cX9_isBalanced 5 = .ok (.getfield 7, 3) := by decide +kernel
theorem dX9_isBalanced_8 : decode cX9_isBalanced 8 = .ok (.iconst 0, 1) := by decide +kernel
theorem dX9_isBalanced_9 : decode cX9_isBalanced 9 = .ok (.iaload, 1) := by decide +kernel
theorem dX9_isBalanced_10 : decode cX9_isBalanced 10 = .ok (.ishl, 1) := by decide +kernel
theorem dX9_isBalanced_11 : decode cX9_isBalanced 11 = .ok (.if_icmp .ge 100, 3) := by decide +kernel
theorem dX9_isBalanced_14 : decode cX9_isBalanced 14 = .ok (.iconst 1, 1) := by decide +kernel
theorem dX9_isBalanced_15 : decode cX9_isBalanced 15 = .ok (.istore_n 2, 1) := by decide +kernel
theorem dX9_isBalanced_16 : decode cX9_isBalanced 16 = .ok (.iconst 0, 1) := by decide +kernel
theorem dX9_isBalanced_17 : decode cX9_isBalanced 17 = .ok (.istore_n 3, 1) := by decide +kernel
theorem dX9_isBalanced_18 : decode cX9_isBalanced 18 = .ok (.iload_n 3, 1) := by decide +kernel
theorem dX9_isBalanced_19 : decode cX9_isBalanced 19 = .ok (.aload_n 0, 1) := by decide +kernel
theorem dX9_isBalanced_20 : decode cX9_isBalanced 20 = .ok (.getfield 7, 3) := by decide +kernel
theorem dX9_isBalanced_23 : decode cX9_isBalanced 23 = .ok (.iconst 1, 1) := by decide +kernel
theorem dX9_isBalanced_24 : decode cX9_isBalanced 24 = .ok (.iaload, 1) := by decide +kernel
theorem dX9_isBalanced_25 : decode cX9_isBalanced 25 = .ok (.if_icmp .ge 74, 3) := by decide +kernel
theorem dX9_isBalanced_28 : decode cX9_isBalanced 28 = .ok (.iload_n 1, 1) := by decide +kernel
theorem dX9_isBalanced_29 : decode cX9_isBalanced 29 = .ok (.aload_n 0, 1) := by decide +kernel
theorem dX9_isBalanced_30 : decode cX9_isBalanced 30 = .ok (.iconst 2, 1) := by decide +kernel
theorem dX9_isBalanced_31 : decode cX9_isBalanced 31 = .ok (.iload_n 3, 1) := by decide +kernel
theorem dX9_isBalanced_32 : decode cX9_isBalanced 32 = .ok (.imul, 1) := by decide +kernel
theorem dX9_isBalanced_33 : decode cX9_isBalanced 33 = .ok (.iconst 0, 1) := by decide +kernel
theorem dX9_isBalanced_34 : decode cX9_isBalanced 34 = .ok (.invokevirtual 96, 3) := by decide +kernel
theorem dX9_isBalanced_37 : decode cX9_isBalanced 37 = .ok (.ishr, 1) := by decide +kernel
theorem dX9_isBalanced_38 : decode cX9_isBalanced 38 = .ok (.iconst 1, 1) := by decide +kernel
theorem dX9_isBalanced_39 : decode cX9_isBalanced 39 = .ok (.iand, 1) := by decide +kernel
theorem dX9_isBalanced_40 : decode cX9_isBalanced 40 = .ok (.iload_n 1, 1) := by decide +kernel
theorem dX9_isBalanced_41 : decode cX9_isBalanced 41 = .ok (.aload_n 0, 1) := by decide +kernel
theorem dX9_isBalanced_42 : decode cX9_isBalanced 42 = .ok (.iconst 2, 1) := by decide +kernel
theorem dX9_isBalanced_43 : decode cX9_isBalanced 43 = .ok (.iload_n 3, 1) := by decide +kernel
theorem dX9_isBalanced_44 : decode cX9_isBalanced 44 = .ok (.imul, 1) := by decide +kernel
theorem dX9_isBalanced_45 : decode cX9_isBalanced 45 = .ok (.iconst 1, 1) := by decide +kernel
theorem dX9_isBalanced_46 : decode cX9_isBalanced 46 = .ok (.invokevirtual 96, 3) := by decide +kernel
theorem dX9_isBalanced_49 : decode cX9_isBalanced 49 = .ok (.ishr, 1) := by decide +kernel
theorem dX9_isBalanced_50 : decode cX9_isBalanced 50 = .ok (.iconst 1, 1) := by decide +kernel
theorem dX9_isBalanced_51 : decode cX9_isBalanced 51 = .ok (.iand, 1) := by decide +kernel
theorem dX9_isBalanced_52 : decode cX9_isBalanced 52 = .ok (.if_icmp .eq 7, 3) := by decide +kernel
theorem dX9_isBalanced_55 : decode cX9_isBalanced 55 = .ok (.iconst 1, 1) := by decide +kernel
theorem dX9_isBalanced_56 : decode cX9_isBalanced 56 = .ok (.goto 4, 3) := by decide +kernel
theorem dX9_isBalanced_59 : decode cX9_isBalanced 59 = .ok (.iconst 0, 1) := by decide +kernel
theorem dX9_isBalanced_60 : decode cX9_isBalanced 60 = .ok (.istore 4, 2) := by decide +kernel
theorem dX9_isBalanced_62 : decode cX9_isBalanced 62 = .ok (.iload_n 2, 1) := by decide +kernel
theorem dX9_isBalanced_63 : decode cX9_isBalanced 63 = .ok (.ifCond .eq 28, 3) := by decide +kernel
theorem dX9_isBalanced_66 : decode cX9_isBalanced 66 = .ok (.iload 4, 2) := by decide +kernel
theorem dX9_isBalanced_68 : decode cX9_isBalanced 68 = .ok (.aload_n 0, 1) := by decide +kernel
theorem dX9_isBalanced_69 : decode cX9_isBalanced 69 = .ok (.iconst 2, 1) := by decide +kernel
theorem dX9_isBalanced_70 : decode cX9_isBalanced 70 = .ok (.iload_n 3, 1) := by decide +kernel
theorem dX9_isBalanced_71 : decode cX9_isBalanced 71 = .ok (.imul, 1) := by decide +kernel
theorem dX9_isBalanced_72 : decode cX9_isBalanced 72 = .ok (.invokevirtual 114, 3) := by decide +kernel
theorem dX9_isBalanced_75 : decode cX9_isBalanced 75 = .ok (.iconst (-1), 1) := by decide +kernel
theorem dX9_isBalanced_76 : decode cX9_isBalanced 76 = .ok (.if_icmp .ne 7, 3) := by decide +kernel
theorem dX9_isBalanced_79 : decode cX9_isBalanced 79 = .ok (.iconst 1, 1) := by decide +kernel
theorem dX9_isBalanced_80 : decode cX9_isBalanced 80 = .ok (.goto 4, 3) := by decide +kernel
theorem dX9_isBalanced_83 : decode cX9_isBalanced 83 = .ok (.iconst 0, 1) := by decide +kernel
theorem dX9_isBalanced_84 : decode cX9_isBalanced 84 = .ok (.if_icmp .ne 7, 3) := by decide +kernel
theorem dX9_isBalanced_87 : decode cX9_isBalanced 87 = .ok (.iconst 1, 1) := by decide +kernel
theorem dX9_isBalanced_88 : decode cX9_isBalanced 88 = .ok (.goto 4, 3) := by decide +kernel
theorem dX9_isBalanced_91 : decode cX9_isBalanced 91 = .ok (.iconst 0, 1) := by decide +kernel
theorem dX9_isBalanced_92 : decode cX9_isBalanced 92 = .ok (.istore_n 2, 1) := by decide +kernel
theorem dX9_isBalanced_93 : decode cX9_isBalanced 93 = .ok (.iinc 3 1, 3) := by decide +kernel
theorem dX9_isBalanced_96 : decode cX9_isBalanced 96 = .ok (.goto (-78), 3) := by decide +kernel
theorem dX9_isBalanced_99 : decode cX9_isBalanced 99 = .ok (.iload_n 2, 1) := by decide +kernel
theorem dX9_isBalanced_100 : decode cX9_isBalanced 100 = .ok (.ifCond .eq 5, 3) := by decide +kernel
theorem dX9_isBalanced_103 : decode cX9_isBalanced 103 = .ok (.iconst 1, 1) := by decide +kernel
theorem dX9_isBalanced_104 : decode cX9_isBalanced 104 = .ok (.ireturn, 1) := by decide +kernel
theorem dX9_isBalanced_105 : decode cX9_isBalanced 105 = .ok (.iinc 1 1, 3) := by decide +kernel
theorem dX9_isBalanced_108 : decode cX9_isBalanced 108 = .ok (.goto (-106), 3) := by decide +kernel
theorem dX9_isBalanced_111 : decode cX9_isBalanced 111 = .ok (.iconst 0, 1) := by decide +kernel
theorem dX9_isBalanced_112 : decode cX9_isBalanced 112 = .ok (.ireturn, 1) := by decide +kernel
theorem dX9_laysEdges_0 : decode cX9_laysEdges 0 = .ok (.aload_n 0, 1) := by decide +kernel
theorem dX9_laysEdges_1 : decode cX9_laysEdges 1 = .ok (.iconst 2, 1) := by decide +kernel
theorem dX9_laysEdges_2 : decode cX9_laysEdges 2 = .ok (.aload_n 0, 1) := by decide +kernel
theorem dX9_laysEdges_3 : decode cX9_laysEdges 3 = .ok (.getfield 7, 3) := by decide +kernel
theorem dX9_laysEdges_6 : decode cX9_laysEdges 6 = .ok (.iconst 1, 1) := by decide +kernel
theorem dX9_laysEdges_7 : decode cX9_laysEdges 7 = .ok (.iaload, 1) := by decide +kernel
theorem dX9_laysEdges_8 : decode cX9_laysEdges 8 = .ok (.imul, 1) := by decide +kernel
theorem dX9_laysEdges_9 : decode cX9_laysEdges 9 = .ok (.putfield 117, 3) := by decide +kernel
theorem dX9_laysEdges_12 : decode cX9_laysEdges 12 = .ok (.iconst 0, 1) := by decide +kernel
theorem dX9_laysEdges_13 : decode cX9_laysEdges 13 = .ok (.istore_n 2, 1) := by decide +kernel
theorem dX9_laysEdges_14 : decode cX9_laysEdges 14 = .ok (.iload_n 2, 1) := by decide +kernel
theorem dX9_laysEdges_15 : decode cX9_laysEdges 15 = .ok (.aload_n 0, 1) := by decide +kernel
theorem dX9_laysEdges_16 : decode cX9_laysEdges 16 = .ok (.getfield 117, 3) := by decide +kernel
theorem dX9_laysEdges_19 : decode cX9_laysEdges 19 = .ok (.if_icmp .ge 70, 3) := by decide +kernel
theorem dX9_laysEdges_22 : decode cX9_laysEdges 22 = .ok (.iconst 0, 1) := by decide +kernel
theorem dX9_laysEdges_23 : decode cX9_laysEdges 23 = .ok (.istore_n 3, 1) := by decide +kernel
theorem dX9_laysEdges_24 : decode cX9_laysEdges 24 = .ok (.iload_n 3, 1) := by decide +kernel
theorem dX9_laysEdges_25 : decode cX9_laysEdges 25 = .ok (.aload_n 0, 1) := by decide +kernel
theorem dX9_laysEdges_26 : decode cX9_laysEdges 26 = .ok (.getfield 117, 3) := by decide +kernel
theorem dX9_laysEdges_29 : decode cX9_laysEdges 29 = .ok (.if_icmp .ge 54, 3) := by decide +kernel
theorem dX9_laysEdges_32 : decode cX9_laysEdges 32 = .ok (.aload_n 0, 1) := by decide +kernel
theorem dX9_laysEdges_33 : decode cX9_laysEdges 33 = .ok (.iload_n 2, 1) := by decide +kernel
theorem dX9_laysEdges_34 : decode cX9_laysEdges 34 = .ok (.iload_n 3, 1) := by decide +kernel
theorem dX9_laysEdges_35 : decode cX9_laysEdges 35 = .ok (.invokevirtual 103, 3) := by decide +kernel
theorem dX9_laysEdges_38 : decode cX9_laysEdges 38 = .ok (.ifCond .eq 7, 3) := by decide +kernel
theorem dX9_laysEdges_41 : decode cX9_laysEdges 41 = .ok (.lconst 1, 1) := by decide +kernel
theorem dX9_laysEdges_42 : decode cX9_laysEdges 42 = .ok (.goto 4, 3) := by decide +kernel
theorem dX9_laysEdges_45 : decode cX9_laysEdges 45 = .ok (.lconst 0, 1) := by decide +kernel
theorem dX9_laysEdges_46 : decode cX9_laysEdges 46 = .ok (.lstore 4, 2) := by decide +kernel
theorem dX9_laysEdges_48 : decode cX9_laysEdges 48 = .ok (.aload_n 0, 1) := by decide +kernel
theorem dX9_laysEdges_49 : decode cX9_laysEdges 49 = .ok (.getfield 25, 3) := by decide +kernel
theorem dX9_laysEdges_52 : decode cX9_laysEdges 52 = .ok (.bipush 18, 2) := by decide +kernel
theorem dX9_laysEdges_54 : decode cX9_laysEdges 54 = .ok (.iload_n 2, 1) := by decide +kernel
theorem dX9_laysEdges_55 : decode cX9_laysEdges 55 = .ok (.imul, 1) := by decide +kernel
theorem dX9_laysEdges_56 : decode cX9_laysEdges 56 = .ok (.iload_n 3, 1) := by decide +kernel
theorem dX9_laysEdges_57 : decode cX9_laysEdges 57 = .ok (.iadd, 1) := by decide +kernel
theorem dX9_laysEdges_58 : decode cX9_laysEdges 58 = .ok (.iload_n 1, 1) := by decide +kernel
theorem dX9_laysEdges_59 : decode cX9_laysEdges 59 = .ok (.ifCond .eq 15, 3) := by decide +kernel
theorem dX9_laysEdges_62 : decode cX9_laysEdges 62 = .ok (.lload 4, 2) := by decide +kernel
theorem dX9_laysEdges_64 : decode cX9_laysEdges 64 = .ok (.aload_n 0, 1) := by decide +kernel
theorem dX9_laysEdges_65 : decode cX9_laysEdges 65 = .ok (.iload_n 2, 1) := by decide +kernel
theorem dX9_laysEdges_66 : decode cX9_laysEdges 66 = .ok (.invokevirtual 114, 3) := by decide +kernel
theorem dX9_laysEdges_69 : decode cX9_laysEdges 69 = .ok (.i2l, 1) := by decide +kernel
theorem dX9_laysEdges_70 : decode cX9_laysEdges 70 = .ok (.lmul, 1) := by decide +kernel
theorem dX9_laysEdges_71 : decode cX9_laysEdges 71 = .ok (.goto 5, 3) := by decide +kernel
theorem dX9_laysEdges_74 : decode cX9_laysEdges 74 = .ok (.lload 4, 2) := by decide +kernel
theorem dX9_laysEdges_76 : decode cX9_laysEdges 76 = .ok (.lastore, 1) := by decide +kernel
theorem dX9_laysEdges_77 : decode cX9_laysEdges 77 = .ok (.iinc 3 1, 3) := by decide +kernel
theorem dX9_laysEdges_80 : decode cX9_laysEdges 80 = .ok (.goto (-56), 3) := by decide +kernel
theorem dX9_laysEdges_83 : decode cX9_laysEdges 83 = .ok (.iinc 2 1, 3) := by decide +kernel
theorem dX9_laysEdges_86 : decode cX9_laysEdges 86 = .ok (.goto (-72), 3) := by decide +kernel
theorem dX9_laysEdges_89 : decode cX9_laysEdges 89 = .ok (.return_, 1) := by decide +kernel
theorem dX9_laysVertices_0 : decode cX9_laysVertices 0 = .ok (.aload_n 0, 1) := by decide +kernel
theorem dX9_laysVertices_1 : decode cX9_laysVertices 1 = .ok (.getfield 7, 3) := by decide +kernel
theorem dX9_laysVertices_4 : decode cX9_laysVertices 4 = .ok (.iconst 0, 1) := by decide +kernel
theorem dX9_laysVertices_5 : decode cX9_laysVertices 5 = .ok (.iaload, 1) := by decide +kernel
theorem dX9_laysVertices_6 : decode cX9_laysVertices 6 = .ok (.istore_n 1, 1) := by decide +kernel
theorem dX9_laysVertices_7 : decode cX9_laysVertices 7 = .ok (.aload_n 0, 1) := by decide +kernel
theorem dX9_laysVertices_8 : decode cX9_laysVertices 8 = .ok (.iconst 2, 1) := by decide +kernel
theorem dX9_laysVertices_9 : decode cX9_laysVertices 9 = .ok (.iload_n 1, 1) := by decide +kernel
theorem dX9_laysVertices_10 : decode cX9_laysVertices 10 = .ok (.imul, 1) := by decide +kernel
theorem dX9_laysVertices_11 : decode cX9_laysVertices 11 = .ok (.putfield 117, 3) := by decide +kernel
theorem dX9_laysVertices_14 : decode cX9_laysVertices 14 = .ok (.iconst 0, 1) := by decide +kernel
theorem dX9_laysVertices_15 : decode cX9_laysVertices 15 = .ok (.istore_n 2, 1) := by decide +kernel
theorem dX9_laysVertices_16 : decode cX9_laysVertices 16 = .ok (.iload_n 2, 1) := by decide +kernel
theorem dX9_laysVertices_17 : decode cX9_laysVertices 17 = .ok (.bipush 18, 2) := by decide +kernel
theorem dX9_laysVertices_19 : decode cX9_laysVertices 19 = .ok (.aload_n 0, 1) := by decide +kernel
theorem dX9_laysVertices_20 : decode cX9_laysVertices 20 = .ok (.getfield 117, 3) := by decide +kernel
theorem dX9_laysVertices_23 : decode cX9_laysVertices 23 = .ok (.imul, 1) := by decide +kernel
theorem dX9_laysVertices_24 : decode cX9_laysVertices 24 = .ok (.if_icmp .ge 16, 3) := by decide +kernel
theorem dX9_laysVertices_27 : decode cX9_laysVertices 27 = .ok (.aload_n 0, 1) := by decide +kernel
theorem dX9_laysVertices_28 : decode cX9_laysVertices 28 = .ok (.getfield 25, 3) := by decide +kernel
theorem dX9_laysVertices_31 : decode cX9_laysVertices 31 = .ok (.iload_n 2, 1) := by decide +kernel
theorem dX9_laysVertices_32 : decode cX9_laysVertices 32 = .ok (.lconst 0, 1) := by decide +kernel
theorem dX9_laysVertices_33 : decode cX9_laysVertices 33 = .ok (.lastore, 1) := by decide +kernel
theorem dX9_laysVertices_34 : decode cX9_laysVertices 34 = .ok (.iinc 2 1, 3) := by decide +kernel
theorem dX9_laysVertices_37 : decode cX9_laysVertices 37 = .ok (.goto (-21), 3) := by decide +kernel
theorem dX9_laysVertices_40 : decode cX9_laysVertices 40 = .ok (.iconst 0, 1) := by decide +kernel
theorem dX9_laysVertices_41 : decode cX9_laysVertices 41 = .ok (.istore_n 2, 1) := by decide +kernel
theorem dX9_laysVertices_42 : decode cX9_laysVertices 42 = .ok (.iload_n 2, 1) := by decide +kernel
theorem dX9_laysVertices_43 : decode cX9_laysVertices 43 = .ok (.iconst 2, 1) := by decide +kernel
theorem dX9_laysVertices_44 : decode cX9_laysVertices 44 = .ok (.aload_n 0, 1) := by decide +kernel
theorem dX9_laysVertices_45 : decode cX9_laysVertices 45 = .ok (.getfield 7, 3) := by decide +kernel
theorem dX9_laysVertices_48 : decode cX9_laysVertices 48 = .ok (.iconst 1, 1) := by decide +kernel
theorem dX9_laysVertices_49 : decode cX9_laysVertices 49 = .ok (.iaload, 1) := by decide +kernel
theorem dX9_laysVertices_50 : decode cX9_laysVertices 50 = .ok (.imul, 1) := by decide +kernel
theorem dX9_laysVertices_51 : decode cX9_laysVertices 51 = .ok (.if_icmp .ge 34, 3) := by decide +kernel
theorem dX9_laysVertices_54 : decode cX9_laysVertices 54 = .ok (.aload_n 0, 1) := by decide +kernel
theorem dX9_laysVertices_55 : decode cX9_laysVertices 55 = .ok (.getfield 25, 3) := by decide +kernel
theorem dX9_laysVertices_58 : decode cX9_laysVertices 58 = .ok (.bipush 18, 2) := by decide +kernel
theorem dX9_laysVertices_60 : decode cX9_laysVertices 60 = .ok (.aload_n 0, 1) := by decide +kernel
theorem dX9_laysVertices_61 : decode cX9_laysVertices 61 = .ok (.iload_n 2, 1) := by decide +kernel
theorem dX9_laysVertices_62 : decode cX9_laysVertices 62 = .ok (.iconst 0, 1) := by decide +kernel
theorem dX9_laysVertices_63 : decode cX9_laysVertices 63 = .ok (.invokevirtual 96, 3) := by decide +kernel
theorem dX9_laysVertices_66 : decode cX9_laysVertices 66 = .ok (.imul, 1) := by decide +kernel
theorem dX9_laysVertices_67 : decode cX9_laysVertices 67 = .ok (.aload_n 0, 1) := by decide +kernel
theorem dX9_laysVertices_68 : decode cX9_laysVertices 68 = .ok (.iload_n 2, 1) := by decide +kernel
theorem dX9_laysVertices_69 : decode cX9_laysVertices 69 = .ok (.iconst 1, 1) := by decide +kernel
theorem dX9_laysVertices_70 : decode cX9_laysVertices 70 = .ok (.invokevirtual 96, 3) := by decide +kernel
theorem dX9_laysVertices_73 : decode cX9_laysVertices 73 = .ok (.iadd, 1) := by decide +kernel
theorem dX9_laysVertices_74 : decode cX9_laysVertices 74 = .ok (.dup2, 1) := by decide +kernel
theorem dX9_laysVertices_75 : decode cX9_laysVertices 75 = .ok (.laload, 1) := by decide +kernel
theorem dX9_laysVertices_76 : decode cX9_laysVertices 76 = .ok (.lconst 1, 1) := by decide +kernel
theorem dX9_laysVertices_77 : decode cX9_laysVertices 77 = .ok (.ladd, 1) := by decide +kernel
theorem dX9_laysVertices_78 : decode cX9_laysVertices 78 = .ok (.lastore, 1) := by decide +kernel
theorem dX9_laysVertices_79 : decode cX9_laysVertices 79 = .ok (.iinc 2 1, 3) := by decide +kernel
theorem dX9_laysVertices_82 : decode cX9_laysVertices 82 = .ok (.goto (-40), 3) := by decide +kernel
theorem dX9_laysVertices_85 : decode cX9_laysVertices 85 = .ok (.iconst 0, 1) := by decide +kernel
theorem dX9_laysVertices_86 : decode cX9_laysVertices 86 = .ok (.istore_n 2, 1) := by decide +kernel
theorem dX9_laysVertices_87 : decode cX9_laysVertices 87 = .ok (.iload_n 2, 1) := by decide +kernel
theorem dX9_laysVertices_88 : decode cX9_laysVertices 88 = .ok (.iload_n 1, 1) := by decide +kernel
theorem dX9_laysVertices_89 : decode cX9_laysVertices 89 = .ok (.if_icmp .ge 44, 3) := by decide +kernel
theorem dX9_laysVertices_92 : decode cX9_laysVertices 92 = .ok (.aload_n 0, 1) := by decide +kernel
theorem dX9_laysVertices_93 : decode cX9_laysVertices 93 = .ok (.getfield 25, 3) := by decide +kernel
theorem dX9_laysVertices_96 : decode cX9_laysVertices 96 = .ok (.bipush 18, 2) := by decide +kernel
theorem dX9_laysVertices_98 : decode cX9_laysVertices 98 = .ok (.iload_n 2, 1) := by decide +kernel
theorem dX9_laysVertices_99 : decode cX9_laysVertices 99 = .ok (.imul, 1) := by decide +kernel
theorem dX9_laysVertices_100 : decode cX9_laysVertices 100 = .ok (.iload_n 1, 1) := by decide +kernel
theorem dX9_laysVertices_101 : decode cX9_laysVertices 101 = .ok (.iadd, 1) := by decide +kernel
theorem dX9_laysVertices_102 : decode cX9_laysVertices 102 = .ok (.iload_n 2, 1) := by decide +kernel
theorem dX9_laysVertices_103 : decode cX9_laysVertices 103 = .ok (.iadd, 1) := by decide +kernel
theorem dX9_laysVertices_104 : decode cX9_laysVertices 104 = .ok (.lconst 1, 1) := by decide +kernel
theorem dX9_laysVertices_105 : decode cX9_laysVertices 105 = .ok (.aload_n 0, 1) := by decide +kernel
theorem dX9_laysVertices_106 : decode cX9_laysVertices 106 = .ok (.iload_n 2, 1) := by decide +kernel
theorem dX9_laysVertices_107 : decode cX9_laysVertices 107 = .ok (.invokevirtual 107, 3) := by decide +kernel
theorem dX9_laysVertices_110 : decode cX9_laysVertices 110 = .ok (.i2l, 1) := by decide +kernel
theorem dX9_laysVertices_111 : decode cX9_laysVertices 111 = .ok (.lsub, 1) := by decide +kernel
theorem dX9_laysVertices_112 : decode cX9_laysVertices 112 = .ok (.lastore, 1) := by decide +kernel
theorem dX9_laysVertices_113 : decode cX9_laysVertices 113 = .ok (.aload_n 0, 1) := by decide +kernel
theorem dX9_laysVertices_114 : decode cX9_laysVertices 114 = .ok (.getfield 25, 3) := by decide +kernel
theorem dX9_laysVertices_117 : decode cX9_laysVertices 117 = .ok (.bipush 18, 2) := by decide +kernel
theorem dX9_laysVertices_119 : decode cX9_laysVertices 119 = .ok (.iload_n 1, 1) := by decide +kernel
theorem dX9_laysVertices_120 : decode cX9_laysVertices 120 = .ok (.iload_n 2, 1) := by decide +kernel
theorem dX9_laysVertices_121 : decode cX9_laysVertices 121 = .ok (.iadd, 1) := by decide +kernel
theorem dX9_laysVertices_122 : decode cX9_laysVertices 122 = .ok (.imul, 1) := by decide +kernel
theorem dX9_laysVertices_123 : decode cX9_laysVertices 123 = .ok (.iload_n 2, 1) := by decide +kernel
theorem dX9_laysVertices_124 : decode cX9_laysVertices 124 = .ok (.iadd, 1) := by decide +kernel
theorem dX9_laysVertices_125 : decode cX9_laysVertices 125 = .ok (.lconst 1, 1) := by decide +kernel
theorem dX9_laysVertices_126 : decode cX9_laysVertices 126 = .ok (.lastore, 1) := by decide +kernel
theorem dX9_laysVertices_127 : decode cX9_laysVertices 127 = .ok (.iinc 2 1, 3) := by decide +kernel
theorem dX9_laysVertices_130 : decode cX9_laysVertices 130 = .ok (.goto (-43), 3) := by decide +kernel
theorem dX9_laysVertices_133 : decode cX9_laysVertices 133 = .ok (.return_, 1) := by decide +kernel
theorem dX9_laysTrees_0 : decode cX9_laysTrees 0 = .ok (.aload_n 0, 1) := by decide +kernel
theorem dX9_laysTrees_1 : decode cX9_laysTrees 1 = .ok (.aload_n 0, 1) := by decide +kernel
theorem dX9_laysTrees_2 : decode cX9_laysTrees 2 = .ok (.getfield 7, 3) := by decide +kernel
theorem dX9_laysTrees_5 : decode cX9_laysTrees 5 = .ok (.iconst 0, 1) := by decide +kernel
theorem dX9_laysTrees_6 : decode cX9_laysTrees 6 = .ok (.iaload, 1) := by decide +kernel
theorem dX9_laysTrees_7 : decode cX9_laysTrees 7 = .ok (.iconst 1, 1) := by decide +kernel
theorem dX9_laysTrees_8 : decode cX9_laysTrees 8 = .ok (.isub, 1) := by decide +kernel
theorem dX9_laysTrees_9 : decode cX9_laysTrees 9 = .ok (.putfield 117, 3) := by decide +kernel
theorem dX9_laysTrees_12 : decode cX9_laysTrees 12 = .ok (.iconst 0, 1) := by decide +kernel
theorem dX9_laysTrees_13 : decode cX9_laysTrees 13 = .ok (.istore_n 1, 1) := by decide +kernel
theorem dX9_laysTrees_14 : decode cX9_laysTrees 14 = .ok (.iload_n 1, 1) := by decide +kernel
theorem dX9_laysTrees_15 : decode cX9_laysTrees 15 = .ok (.sipush 324, 3) := by decide +kernel
theorem dX9_laysTrees_18 : decode cX9_laysTrees 18 = .ok (.if_icmp .ge 16, 3) := by decide +kernel
theorem dX9_laysTrees_21 : decode cX9_laysTrees 21 = .ok (.aload_n 0, 1) := by decide +kernel
theorem dX9_laysTrees_22 : decode cX9_laysTrees 22 = .ok (.getfield 25, 3) := by decide +kernel
theorem dX9_laysTrees_25 : decode cX9_laysTrees 25 = .ok (.iload_n 1, 1) := by decide +kernel
theorem dX9_laysTrees_26 : decode cX9_laysTrees 26 = .ok (.lconst 0, 1) := by decide +kernel
theorem dX9_laysTrees_27 : decode cX9_laysTrees 27 = .ok (.lastore, 1) := by decide +kernel
theorem dX9_laysTrees_28 : decode cX9_laysTrees 28 = .ok (.iinc 1 1, 3) := by decide +kernel
theorem dX9_laysTrees_31 : decode cX9_laysTrees 31 = .ok (.goto (-17), 3) := by decide +kernel
theorem dX9_laysTrees_34 : decode cX9_laysTrees 34 = .ok (.iconst 0, 1) := by decide +kernel
theorem dX9_laysTrees_35 : decode cX9_laysTrees 35 = .ok (.istore_n 1, 1) := by decide +kernel
theorem dX9_laysTrees_36 : decode cX9_laysTrees 36 = .ok (.iload_n 1, 1) := by decide +kernel
theorem dX9_laysTrees_37 : decode cX9_laysTrees 37 = .ok (.iconst 2, 1) := by decide +kernel
theorem dX9_laysTrees_38 : decode cX9_laysTrees 38 = .ok (.aload_n 0, 1) := by decide +kernel
theorem dX9_laysTrees_39 : decode cX9_laysTrees 39 = .ok (.getfield 7, 3) := by decide +kernel
theorem dX9_laysTrees_42 : decode cX9_laysTrees 42 = .ok (.iconst 1, 1) := by decide +kernel
theorem dX9_laysTrees_43 : decode cX9_laysTrees 43 = .ok (.iaload, 1) := by decide +kernel
theorem dX9_laysTrees_44 : decode cX9_laysTrees 44 = .ok (.imul, 1) := by decide +kernel
theorem dX9_laysTrees_45 : decode cX9_laysTrees 45 = .ok (.if_icmp .ge 53, 3) := by decide +kernel
theorem dX9_laysTrees_48 : decode cX9_laysTrees 48 = .ok (.aload_n 0, 1) := by decide +kernel
theorem dX9_laysTrees_49 : decode cX9_laysTrees 49 = .ok (.iload_n 1, 1) := by decide +kernel
theorem dX9_laysTrees_50 : decode cX9_laysTrees 50 = .ok (.iconst 0, 1) := by decide +kernel
theorem dX9_laysTrees_51 : decode cX9_laysTrees 51 = .ok (.invokevirtual 96, 3) := by decide +kernel
theorem dX9_laysTrees_54 : decode cX9_laysTrees 54 = .ok (.istore_n 2, 1) := by decide +kernel
theorem dX9_laysTrees_55 : decode cX9_laysTrees 55 = .ok (.aload_n 0, 1) := by decide +kernel
theorem dX9_laysTrees_56 : decode cX9_laysTrees 56 = .ok (.iload_n 1, 1) := by decide +kernel
theorem dX9_laysTrees_57 : decode cX9_laysTrees 57 = .ok (.iconst 1, 1) := by decide +kernel
theorem dX9_laysTrees_58 : decode cX9_laysTrees 58 = .ok (.invokevirtual 96, 3) := by decide +kernel
theorem dX9_laysTrees_61 : decode cX9_laysTrees 61 = .ok (.istore_n 3, 1) := by decide +kernel
theorem dX9_laysTrees_62 : decode cX9_laysTrees 62 = .ok (.aload_n 0, 1) := by decide +kernel
theorem dX9_laysTrees_63 : decode cX9_laysTrees 63 = .ok (.getfield 25, 3) := by decide +kernel
theorem dX9_laysTrees_66 : decode cX9_laysTrees 66 = .ok (.bipush 18, 2) := by decide +kernel
theorem dX9_laysTrees_68 : decode cX9_laysTrees 68 = .ok (.iload_n 2, 1) := by decide +kernel
theorem dX9_laysTrees_69 : decode cX9_laysTrees 69 = .ok (.imul, 1) := by decide +kernel
theorem dX9_laysTrees_70 : decode cX9_laysTrees 70 = .ok (.iload_n 2, 1) := by decide +kernel
theorem dX9_laysTrees_71 : decode cX9_laysTrees 71 = .ok (.iadd, 1) := by decide +kernel
theorem dX9_laysTrees_72 : decode cX9_laysTrees 72 = .ok (.dup2, 1) := by decide +kernel
theorem dX9_laysTrees_73 : decode cX9_laysTrees 73 = .ok (.laload, 1) := by decide +kernel
theorem dX9_laysTrees_74 : decode cX9_laysTrees 74 = .ok (.lconst 1, 1) := by decide +kernel
theorem dX9_laysTrees_75 : decode cX9_laysTrees 75 = .ok (.ladd, 1) := by decide +kernel
theorem dX9_laysTrees_76 : decode cX9_laysTrees 76 = .ok (.lastore, 1) := by decide +kernel
theorem dX9_laysTrees_77 : decode cX9_laysTrees 77 = .ok (.aload_n 0, 1) := by decide +kernel
theorem dX9_laysTrees_78 : decode cX9_laysTrees 78 = .ok (.getfield 25, 3) := by decide +kernel
theorem dX9_laysTrees_81 : decode cX9_laysTrees 81 = .ok (.bipush 18, 2) := by decide +kernel
theorem dX9_laysTrees_83 : decode cX9_laysTrees 83 = .ok (.iload_n 2, 1) := by decide +kernel
theorem dX9_laysTrees_84 : decode cX9_laysTrees 84 = .ok (.imul, 1) := by decide +kernel
theorem dX9_laysTrees_85 : decode cX9_laysTrees 85 = .ok (.iload_n 3, 1) := by decide +kernel
theorem dX9_laysTrees_86 : decode cX9_laysTrees 86 = .ok (.iadd, 1) := by decide +kernel
theorem dX9_laysTrees_87 : decode cX9_laysTrees 87 = .ok (.dup2, 1) := by decide +kernel
theorem dX9_laysTrees_88 : decode cX9_laysTrees 88 = .ok (.laload, 1) := by decide +kernel
theorem dX9_laysTrees_89 : decode cX9_laysTrees 89 = .ok (.lconst 1, 1) := by decide +kernel
theorem dX9_laysTrees_90 : decode cX9_laysTrees 90 = .ok (.lsub, 1) := by decide +kernel
theorem dX9_laysTrees_91 : decode cX9_laysTrees 91 = .ok (.lastore, 1) := by decide +kernel
theorem dX9_laysTrees_92 : decode cX9_laysTrees 92 = .ok (.iinc 1 1, 3) := by decide +kernel
theorem dX9_laysTrees_95 : decode cX9_laysTrees 95 = .ok (.goto (-59), 3) := by decide +kernel
theorem dX9_laysTrees_98 : decode cX9_laysTrees 98 = .ok (.return_, 1) := by decide +kernel
theorem dX9_clears_0 : decode cX9_clears 0 = .ok (.iconst 0, 1) := by decide +kernel
theorem dX9_clears_1 : decode cX9_clears 1 = .ok (.istore_n 2, 1) := by decide +kernel
theorem dX9_clears_2 : decode cX9_clears 2 = .ok (.iload_n 2, 1) := by decide +kernel
theorem dX9_clears_3 : decode cX9_clears 3 = .ok (.bipush 19, 2) := by decide +kernel
theorem dX9_clears_5 : decode cX9_clears 5 = .ok (.if_icmp .ge 13, 3) := by decide +kernel
theorem dX9_clears_8 : decode cX9_clears 8 = .ok (.aload_n 1, 1) := by decide +kernel
theorem dX9_clears_9 : decode cX9_clears 9 = .ok (.iload_n 2, 1) := by decide +kernel
theorem dX9_clears_10 : decode cX9_clears 10 = .ok (.lconst 0, 1) := by decide +kernel
theorem dX9_clears_11 : decode cX9_clears 11 = .ok (.lastore, 1) := by decide +kernel
theorem dX9_clears_12 : decode cX9_clears 12 = .ok (.iinc 2 1, 3) := by decide +kernel
theorem dX9_clears_15 : decode cX9_clears 15 = .ok (.goto (-13), 3) := by decide +kernel
theorem dX9_clears_18 : decode cX9_clears 18 = .ok (.return_, 1) := by decide +kernel
theorem dX9_laysStep_0 : decode cX9_laysStep 0 = .ok (.aload_n 0, 1) := by decide +kernel
theorem dX9_laysStep_1 : decode cX9_laysStep 1 = .ok (.getfield 41, 3) := by decide +kernel
theorem dX9_laysStep_4 : decode cX9_laysStep 4 = .ok (.iconst 0, 1) := by decide +kernel
theorem dX9_laysStep_5 : decode cX9_laysStep 5 = .ok (.lconst 1, 1) := by decide +kernel
theorem dX9_laysStep_6 : decode cX9_laysStep 6 = .ok (.lastore, 1) := by decide +kernel
theorem dX9_laysStep_7 : decode cX9_laysStep 7 = .ok (.aload_n 0, 1) := by decide +kernel
theorem dX9_laysStep_8 : decode cX9_laysStep 8 = .ok (.getfield 41, 3) := by decide +kernel
theorem dX9_laysStep_11 : decode cX9_laysStep 11 = .ok (.iconst 1, 1) := by decide +kernel
theorem dX9_laysStep_12 : decode cX9_laysStep 12 = .ok (.aload_n 0, 1) := by decide +kernel
theorem dX9_laysStep_13 : decode cX9_laysStep 13 = .ok (.getfield 25, 3) := by decide +kernel
theorem dX9_laysStep_16 : decode cX9_laysStep 16 = .ok (.bipush 18, 2) := by decide +kernel
theorem dX9_laysStep_18 : decode cX9_laysStep 18 = .ok (.iload_n 1, 1) := by decide +kernel
theorem dX9_laysStep_19 : decode cX9_laysStep 19 = .ok (.imul, 1) := by decide +kernel
theorem dX9_laysStep_20 : decode cX9_laysStep 20 = .ok (.iload_n 1, 1) := by decide +kernel
theorem dX9_laysStep_21 : decode cX9_laysStep 21 = .ok (.iadd, 1) := by decide +kernel
theorem dX9_laysStep_22 : decode cX9_laysStep 22 = .ok (.laload, 1) := by decide +kernel
theorem dX9_laysStep_23 : decode cX9_laysStep 23 = .ok (.lneg, 1) := by decide +kernel
theorem dX9_laysStep_24 : decode cX9_laysStep 24 = .ok (.lastore, 1) := by decide +kernel
theorem dX9_laysStep_25 : decode cX9_laysStep 25 = .ok (.iconst 0, 1) := by decide +kernel
theorem dX9_laysStep_26 : decode cX9_laysStep 26 = .ok (.istore_n 2, 1) := by decide +kernel
theorem dX9_laysStep_27 : decode cX9_laysStep 27 = .ok (.iload_n 2, 1) := by decide +kernel
theorem dX9_laysStep_28 : decode cX9_laysStep 28 = .ok (.iload_n 1, 1) := by decide +kernel
theorem dX9_laysStep_29 : decode cX9_laysStep 29 = .ok (.if_icmp .ge 26, 3) := by decide +kernel
theorem dX9_laysStep_32 : decode cX9_laysStep 32 = .ok (.aload_n 0, 1) := by decide +kernel
theorem dX9_laysStep_33 : decode cX9_laysStep 33 = .ok (.getfield 44, 3) := by decide +kernel
theorem dX9_laysStep_36 : decode cX9_laysStep 36 = .ok (.iload_n 2, 1) := by decide +kernel
theorem dX9_laysStep_37 : decode cX9_laysStep 37 = .ok (.aload_n 0, 1) := by decide +kernel
theorem dX9_laysStep_38 : decode cX9_laysStep 38 = .ok (.getfield 25, 3) := by decide +kernel
theorem dX9_laysStep_41 : decode cX9_laysStep 41 = .ok (.bipush 18, 2) := by decide +kernel
theorem dX9_laysStep_43 : decode cX9_laysStep 43 = .ok (.iload_n 2, 1) := by decide +kernel
theorem dX9_laysStep_44 : decode cX9_laysStep 44 = .ok (.imul, 1) := by decide +kernel
theorem dX9_laysStep_45 : decode cX9_laysStep 45 = .ok (.iload_n 1, 1) := by decide +kernel
theorem dX9_laysStep_46 : decode cX9_laysStep 46 = .ok (.iadd, 1) := by decide +kernel
theorem dX9_laysStep_47 : decode cX9_laysStep 47 = .ok (.laload, 1) := by decide +kernel
theorem dX9_laysStep_48 : decode cX9_laysStep 48 = .ok (.lastore, 1) := by decide +kernel
theorem dX9_laysStep_49 : decode cX9_laysStep 49 = .ok (.iinc 2 1, 3) := by decide +kernel
theorem dX9_laysStep_52 : decode cX9_laysStep 52 = .ok (.goto (-25), 3) := by decide +kernel
theorem dX9_laysStep_55 : decode cX9_laysStep 55 = .ok (.iconst 0, 1) := by decide +kernel
theorem dX9_laysStep_56 : decode cX9_laysStep 56 = .ok (.istore_n 2, 1) := by decide +kernel
theorem dX9_laysStep_57 : decode cX9_laysStep 57 = .ok (.iload_n 2, 1) := by decide +kernel
theorem dX9_laysStep_58 : decode cX9_laysStep 58 = .ok (.iload_n 1, 1) := by decide +kernel
theorem dX9_laysStep_59 : decode cX9_laysStep 59 = .ok (.if_icmp .ge 157, 3) := by decide +kernel
theorem dX9_laysStep_62 : decode cX9_laysStep 62 = .ok (.lconst 0, 1) := by decide +kernel
theorem dX9_laysStep_63 : decode cX9_laysStep 63 = .ok (.lstore_n 3, 1) := by decide +kernel
theorem dX9_laysStep_64 : decode cX9_laysStep 64 = .ok (.iconst 0, 1) := by decide +kernel
theorem dX9_laysStep_65 : decode cX9_laysStep 65 = .ok (.istore 5, 2) := by decide +kernel
theorem dX9_laysStep_67 : decode cX9_laysStep 67 = .ok (.iload 5, 2) := by decide +kernel
theorem dX9_laysStep_69 : decode cX9_laysStep 69 = .ok (.iload_n 1, 1) := by decide +kernel
theorem dX9_laysStep_70 : decode cX9_laysStep 70 = .ok (.if_icmp .ge 32, 3) := by decide +kernel
theorem dX9_laysStep_73 : decode cX9_laysStep 73 = .ok (.lload_n 3, 1) := by decide +kernel
theorem dX9_laysStep_74 : decode cX9_laysStep 74 = .ok (.aload_n 0, 1) := by decide +kernel
theorem dX9_laysStep_75 : decode cX9_laysStep 75 = .ok (.getfield 25, 3) := by decide +kernel
theorem dX9_laysStep_78 : decode cX9_laysStep 78 = .ok (.bipush 18, 2) := by decide +kernel
theorem dX9_laysStep_80 : decode cX9_laysStep 80 = .ok (.iload_n 1, 1) := by decide +kernel
theorem dX9_laysStep_81 : decode cX9_laysStep 81 = .ok (.imul, 1) := by decide +kernel
theorem dX9_laysStep_82 : decode cX9_laysStep 82 = .ok (.iload 5, 2) := by decide +kernel
theorem dX9_laysStep_84 : decode cX9_laysStep 84 = .ok (.iadd, 1) := by decide +kernel
theorem dX9_laysStep_85 : decode cX9_laysStep 85 = .ok (.laload, 1) := by decide +kernel
theorem dX9_laysStep_86 : decode cX9_laysStep 86 = .ok (.aload_n 0, 1) := by decide +kernel
theorem dX9_laysStep_87 : decode cX9_laysStep 87 = .ok (.getfield 44, 3) := by decide +kernel
theorem dX9_laysStep_90 : decode cX9_laysStep 90 = .ok (.iload 5, 2) := by decide +kernel
theorem dX9_laysStep_92 : decode cX9_laysStep 92 = .ok (.laload, 1) := by decide +kernel
theorem dX9_laysStep_93 : decode cX9_laysStep 93 = .ok (.lmul, 1) := by decide +kernel
theorem dX9_laysStep_94 : decode cX9_laysStep 94 = .ok (.ladd, 1) := by decide +kernel
theorem dX9_laysStep_95 : decode cX9_laysStep 95 = .ok (.lstore_n 3, 1) := by decide +kernel
theorem dX9_laysStep_96 : decode cX9_laysStep 96 = .ok (.iinc 5 1, 3) := by decide +kernel
theorem dX9_laysStep_99 : decode cX9_laysStep 99 = .ok (.goto (-32), 3) := by decide +kernel
theorem dX9_laysStep_102 : decode cX9_laysStep 102 = .ok (.aload_n 0, 1) := by decide +kernel
theorem dX9_laysStep_103 : decode cX9_laysStep 103 = .ok (.getfield 41, 3) := by decide +kernel
theorem dX9_laysStep_106 : decode cX9_laysStep 106 = .ok (.iload_n 2, 1) := by decide +kernel
theorem dX9_laysStep_107 : decode cX9_laysStep 107 = .ok (.iconst 2, 1) := by decide +kernel
theorem dX9_laysStep_108 : decode cX9_laysStep 108 = .ok (.iadd, 1) := by decide +kernel
theorem dX9_laysStep_109 : decode cX9_laysStep 109 = .ok (.lload_n 3, 1) := by decide +kernel
theorem dX9_laysStep_110 : decode cX9_laysStep 110 = .ok (.lneg, 1) := by decide +kernel
theorem dX9_laysStep_111 : decode cX9_laysStep 111 = .ok (.lastore, 1) := by decide +kernel
theorem dX9_laysStep_112 : decode cX9_laysStep 112 = .ok (.iconst 0, 1) := by decide +kernel
theorem dX9_laysStep_113 : decode cX9_laysStep 113 = .ok (.istore 5, 2) := by decide +kernel
theorem dX9_laysStep_115 : decode cX9_laysStep 115 = .ok (.iload 5, 2) := by decide +kernel
theorem dX9_laysStep_117 : decode cX9_laysStep 117 = .ok (.iload_n 1, 1) := by decide +kernel
theorem dX9_laysStep_118 : decode cX9_laysStep 118 = .ok (.if_icmp .ge 63, 3) := by decide +kernel
theorem dX9_laysStep_121 : decode cX9_laysStep 121 = .ok (.aload_n 0, 1) := by decide +kernel
theorem dX9_laysStep_122 : decode cX9_laysStep 122 = .ok (.getfield 47, 3) := by decide +kernel
theorem dX9_laysStep_125 : decode cX9_laysStep 125 = .ok (.iload 5, 2) := by decide +kernel
theorem dX9_laysStep_127 : decode cX9_laysStep 127 = .ok (.lconst 0, 1) := by decide +kernel
theorem dX9_laysStep_128 : decode cX9_laysStep 128 = .ok (.lastore, 1) := by decide +kernel
theorem dX9_laysStep_129 : decode cX9_laysStep 129 = .ok (.iconst 0, 1) := by decide +kernel
theorem dX9_laysStep_130 : decode cX9_laysStep 130 = .ok (.istore 6, 2) := by decide +kernel
theorem dX9_laysStep_132 : decode cX9_laysStep 132 = .ok (.iload 6, 2) := by decide +kernel
theorem dX9_laysStep_134 : decode cX9_laysStep 134 = .ok (.iload_n 1, 1) := by decide +kernel
theorem dX9_laysStep_135 : decode cX9_laysStep 135 = .ok (.if_icmp .ge 40, 3) := by decide +kernel
theorem dX9_laysStep_138 : decode cX9_laysStep 138 = .ok (.aload_n 0, 1) := by decide +kernel
theorem dX9_laysStep_139 : decode cX9_laysStep 139 = .ok (.getfield 47, 3) := by decide +kernel
theorem dX9_laysStep_142 : decode cX9_laysStep 142 = .ok (.iload 5, 2) := by decide +kernel
theorem dX9_laysStep_144 : decode cX9_laysStep 144 = .ok (.dup2, 1) := by decide +kernel
theorem dX9_laysStep_145 : decode cX9_laysStep 145 = .ok (.laload, 1) := by decide +kernel
theorem dX9_laysStep_146 : decode cX9_laysStep 146 = .ok (.aload_n 0, 1) := by decide +kernel
theorem dX9_laysStep_147 : decode cX9_laysStep 147 = .ok (.getfield 25, 3) := by decide +kernel
theorem dX9_laysStep_150 : decode cX9_laysStep 150 = .ok (.bipush 18, 2) := by decide +kernel
theorem dX9_laysStep_152 : decode cX9_laysStep 152 = .ok (.iload 5, 2) := by decide +kernel
theorem dX9_laysStep_154 : decode cX9_laysStep 154 = .ok (.imul, 1) := by decide +kernel
theorem dX9_laysStep_155 : decode cX9_laysStep 155 = .ok (.iload 6, 2) := by decide +kernel
theorem dX9_laysStep_157 : decode cX9_laysStep 157 = .ok (.iadd, 1) := by decide +kernel
theorem dX9_laysStep_158 : decode cX9_laysStep 158 = .ok (.laload, 1) := by decide +kernel
theorem dX9_laysStep_159 : decode cX9_laysStep 159 = .ok (.aload_n 0, 1) := by decide +kernel
theorem dX9_laysStep_160 : decode cX9_laysStep 160 = .ok (.getfield 44, 3) := by decide +kernel
theorem dX9_laysStep_163 : decode cX9_laysStep 163 = .ok (.iload 6, 2) := by decide +kernel
theorem dX9_laysStep_165 : decode cX9_laysStep 165 = .ok (.laload, 1) := by decide +kernel
theorem dX9_laysStep_166 : decode cX9_laysStep 166 = .ok (.lmul, 1) := by decide +kernel
theorem dX9_laysStep_167 : decode cX9_laysStep 167 = .ok (.ladd, 1) := by decide +kernel
theorem dX9_laysStep_168 : decode cX9_laysStep 168 = .ok (.lastore, 1) := by decide +kernel
theorem dX9_laysStep_169 : decode cX9_laysStep 169 = .ok (.iinc 6 1, 3) := by decide +kernel
theorem dX9_laysStep_172 : decode cX9_laysStep 172 = .ok (.goto (-40), 3) := by decide +kernel
theorem dX9_laysStep_175 : decode cX9_laysStep 175 = .ok (.iinc 5 1, 3) := by decide +kernel
theorem dX9_laysStep_178 : decode cX9_laysStep 178 = .ok (.goto (-63), 3) := by decide +kernel
theorem dX9_laysStep_181 : decode cX9_laysStep 181 = .ok (.iconst 0, 1) := by decide +kernel
theorem dX9_laysStep_182 : decode cX9_laysStep 182 = .ok (.istore 5, 2) := by decide +kernel
theorem dX9_laysStep_184 : decode cX9_laysStep 184 = .ok (.iload 5, 2) := by decide +kernel
theorem dX9_laysStep_186 : decode cX9_laysStep 186 = .ok (.iload_n 1, 1) := by decide +kernel
theorem dX9_laysStep_187 : decode cX9_laysStep 187 = .ok (.if_icmp .ge 23, 3) := by decide +kernel
theorem dX9_laysStep_190 : decode cX9_laysStep 190 = .ok (.aload_n 0, 1) := by decide +kernel
theorem dX9_laysStep_191 : decode cX9_laysStep 191 = .ok (.getfield 44, 3) := by decide +kernel
theorem dX9_laysStep_194 : decode cX9_laysStep 194 = .ok (.iload 5, 2) := by decide +kernel
theorem dX9_laysStep_196 : decode cX9_laysStep 196 = .ok (.aload_n 0, 1) := by decide +kernel
theorem dX9_laysStep_197 : decode cX9_laysStep 197 = .ok (.getfield 47, 3) := by decide +kernel
theorem dX9_laysStep_200 : decode cX9_laysStep 200 = .ok (.iload 5, 2) := by decide +kernel
theorem dX9_laysStep_202 : decode cX9_laysStep 202 = .ok (.laload, 1) := by decide +kernel
theorem dX9_laysStep_203 : decode cX9_laysStep 203 = .ok (.lastore, 1) := by decide +kernel
theorem dX9_laysStep_204 : decode cX9_laysStep 204 = .ok (.iinc 5 1, 3) := by decide +kernel
theorem dX9_laysStep_207 : decode cX9_laysStep 207 = .ok (.goto (-23), 3) := by decide +kernel
theorem dX9_laysStep_210 : decode cX9_laysStep 210 = .ok (.iinc 2 1, 3) := by decide +kernel
theorem dX9_laysStep_213 : decode cX9_laysStep 213 = .ok (.goto (-156), 3) := by decide +kernel
theorem dX9_laysStep_216 : decode cX9_laysStep 216 = .ok (.return_, 1) := by decide +kernel
theorem dX9_laysPoly_0 : decode cX9_laysPoly 0 = .ok (.aload_n 0, 1) := by decide +kernel
theorem dX9_laysPoly_1 : decode cX9_laysPoly 1 = .ok (.aload_n 0, 1) := by decide +kernel
theorem dX9_laysPoly_2 : decode cX9_laysPoly 2 = .ok (.getfield 35, 3) := by decide +kernel
theorem dX9_laysPoly_5 : decode cX9_laysPoly 5 = .ok (.invokevirtual 120, 3) := by decide +kernel
theorem dX9_laysPoly_8 : decode cX9_laysPoly 8 = .ok (.aload_n 0, 1) := by decide +kernel
theorem dX9_laysPoly_9 : decode cX9_laysPoly 9 = .ok (.getfield 35, 3) := by decide +kernel
theorem dX9_laysPoly_12 : decode cX9_laysPoly 12 = .ok (.iconst 0, 1) := by decide +kernel
theorem dX9_laysPoly_13 : decode cX9_laysPoly 13 = .ok (.lconst 1, 1) := by decide +kernel
theorem dX9_laysPoly_14 : decode cX9_laysPoly 14 = .ok (.lastore, 1) := by decide +kernel
theorem dX9_laysPoly_15 : decode cX9_laysPoly 15 = .ok (.iconst 0, 1) := by decide +kernel
theorem dX9_laysPoly_16 : decode cX9_laysPoly 16 = .ok (.istore_n 1, 1) := by decide +kernel
theorem dX9_laysPoly_17 : decode cX9_laysPoly 17 = .ok (.iload_n 1, 1) := by decide +kernel
theorem dX9_laysPoly_18 : decode cX9_laysPoly 18 = .ok (.aload_n 0, 1) := by decide +kernel
theorem dX9_laysPoly_19 : decode cX9_laysPoly 19 = .ok (.getfield 117, 3) := by decide +kernel
theorem dX9_laysPoly_22 : decode cX9_laysPoly 22 = .ok (.if_icmp .ge 104, 3) := by decide +kernel
theorem dX9_laysPoly_25 : decode cX9_laysPoly 25 = .ok (.aload_n 0, 1) := by decide +kernel
theorem dX9_laysPoly_26 : decode cX9_laysPoly 26 = .ok (.iload_n 1, 1) := by decide +kernel
theorem dX9_laysPoly_27 : decode cX9_laysPoly 27 = .ok (.invokevirtual 124, 3) := by decide +kernel
theorem dX9_laysPoly_30 : decode cX9_laysPoly 30 = .ok (.iconst 0, 1) := by decide +kernel
theorem dX9_laysPoly_31 : decode cX9_laysPoly 31 = .ok (.istore_n 2, 1) := by decide +kernel
theorem dX9_laysPoly_32 : decode cX9_laysPoly 32 = .ok (.iload_n 2, 1) := by decide +kernel
theorem dX9_laysPoly_33 : decode cX9_laysPoly 33 = .ok (.bipush 19, 2) := by decide +kernel
theorem dX9_laysPoly_35 : decode cX9_laysPoly 35 = .ok (.if_icmp .ge 28, 3) := by decide +kernel
theorem dX9_laysPoly_38 : decode cX9_laysPoly 38 = .ok (.aload_n 0, 1) := by decide +kernel
theorem dX9_laysPoly_39 : decode cX9_laysPoly 39 = .ok (.getfield 38, 3) := by decide +kernel
theorem dX9_laysPoly_42 : decode cX9_laysPoly 42 = .ok (.iload_n 2, 1) := by decide +kernel
theorem dX9_laysPoly_43 : decode cX9_laysPoly 43 = .ok (.aload_n 0, 1) := by decide +kernel
theorem dX9_laysPoly_44 : decode cX9_laysPoly 44 = .ok (.getfield 35, 3) := by decide +kernel
theorem dX9_laysPoly_47 : decode cX9_laysPoly 47 = .ok (.iload_n 2, 1) := by decide +kernel
theorem dX9_laysPoly_48 : decode cX9_laysPoly 48 = .ok (.laload, 1) := by decide +kernel
theorem dX9_laysPoly_49 : decode cX9_laysPoly 49 = .ok (.lastore, 1) := by decide +kernel
theorem dX9_laysPoly_50 : decode cX9_laysPoly 50 = .ok (.aload_n 0, 1) := by decide +kernel
theorem dX9_laysPoly_51 : decode cX9_laysPoly 51 = .ok (.getfield 35, 3) := by decide +kernel
theorem dX9_laysPoly_54 : decode cX9_laysPoly 54 = .ok (.iload_n 2, 1) := by decide +kernel
theorem dX9_laysPoly_55 : decode cX9_laysPoly 55 = .ok (.lconst 0, 1) := by decide +kernel
theorem dX9_laysPoly_56 : decode cX9_laysPoly 56 = .ok (.lastore, 1) := by decide +kernel
theorem dX9_laysPoly_57 : decode cX9_laysPoly 57 = .ok (.iinc 2 1, 3) := by decide +kernel
theorem dX9_laysPoly_60 : decode cX9_laysPoly 60 = .ok (.goto (-28), 3) := by decide +kernel
theorem dX9_laysPoly_63 : decode cX9_laysPoly 63 = .ok (.iconst 0, 1) := by decide +kernel
theorem dX9_laysPoly_64 : decode cX9_laysPoly 64 = .ok (.istore_n 2, 1) := by decide +kernel
theorem dX9_laysPoly_65 : decode cX9_laysPoly 65 = .ok (.iload_n 2, 1) := by decide +kernel
theorem dX9_laysPoly_66 : decode cX9_laysPoly 66 = .ok (.iload_n 1, 1) := by decide +kernel
theorem dX9_laysPoly_67 : decode cX9_laysPoly 67 = .ok (.iconst 1, 1) := by decide +kernel
theorem dX9_laysPoly_68 : decode cX9_laysPoly 68 = .ok (.iadd, 1) := by decide +kernel
theorem dX9_laysPoly_69 : decode cX9_laysPoly 69 = .ok (.if_icmp .gt 51, 3) := by decide +kernel
theorem dX9_laysPoly_72 : decode cX9_laysPoly 72 = .ok (.iconst 0, 1) := by decide +kernel
theorem dX9_laysPoly_73 : decode cX9_laysPoly 73 = .ok (.istore_n 3, 1) := by decide +kernel
theorem dX9_laysPoly_74 : decode cX9_laysPoly 74 = .ok (.iload_n 3, 1) := by decide +kernel
theorem dX9_laysPoly_75 : decode cX9_laysPoly 75 = .ok (.iload_n 1, 1) := by decide +kernel
theorem dX9_laysPoly_76 : decode cX9_laysPoly 76 = .ok (.if_icmp .gt 38, 3) := by decide +kernel
theorem dX9_laysPoly_79 : decode cX9_laysPoly 79 = .ok (.iload_n 3, 1) := by decide +kernel
theorem dX9_laysPoly_80 : decode cX9_laysPoly 80 = .ok (.iload_n 2, 1) := by decide +kernel
theorem dX9_laysPoly_81 : decode cX9_laysPoly 81 = .ok (.if_icmp .gt 33, 3) := by decide +kernel
theorem dX9_laysPoly_84 : decode cX9_laysPoly 84 = .ok (.aload_n 0, 1) := by decide +kernel
theorem dX9_laysPoly_85 : decode cX9_laysPoly 85 = .ok (.getfield 35, 3) := by decide +kernel
theorem dX9_laysPoly_88 : decode cX9_laysPoly 88 = .ok (.iload_n 2, 1) := by decide +kernel
theorem dX9_laysPoly_89 : decode cX9_laysPoly 89 = .ok (.dup2, 1) := by decide +kernel
theorem dX9_laysPoly_90 : decode cX9_laysPoly 90 = .ok (.laload, 1) := by decide +kernel
theorem dX9_laysPoly_91 : decode cX9_laysPoly 91 = .ok (.aload_n 0, 1) := by decide +kernel
theorem dX9_laysPoly_92 : decode cX9_laysPoly 92 = .ok (.getfield 41, 3) := by decide +kernel
theorem dX9_laysPoly_95 : decode cX9_laysPoly 95 = .ok (.iload_n 2, 1) := by decide +kernel
theorem dX9_laysPoly_96 : decode cX9_laysPoly 96 = .ok (.iload_n 3, 1) := by decide +kernel
theorem dX9_laysPoly_97 : decode cX9_laysPoly 97 = .ok (.isub, 1) := by decide +kernel
theorem dX9_laysPoly_98 : decode cX9_laysPoly 98 = .ok (.laload, 1) := by decide +kernel
theorem dX9_laysPoly_99 : decode cX9_laysPoly 99 = .ok (.aload_n 0, 1) := by decide +kernel
theorem dX9_laysPoly_100 : decode cX9_laysPoly 100 = .ok (.getfield 38, 3) := by decide +kernel
theorem dX9_laysPoly_103 : decode cX9_laysPoly 103 = .ok (.iload_n 3, 1) := by decide +kernel
theorem dX9_laysPoly_104 : decode cX9_laysPoly 104 = .ok (.laload, 1) := by decide +kernel
theorem dX9_laysPoly_105 : decode cX9_laysPoly 105 = .ok (.lmul, 1) := by decide +kernel
theorem dX9_laysPoly_106 : decode cX9_laysPoly 106 = .ok (.ladd, 1) := by decide +kernel
theorem dX9_laysPoly_107 : decode cX9_laysPoly 107 = .ok (.lastore, 1) := by decide +kernel
theorem dX9_laysPoly_108 : decode cX9_laysPoly 108 = .ok (.iinc 3 1, 3) := by decide +kernel
theorem dX9_laysPoly_111 : decode cX9_laysPoly 111 = .ok (.goto (-37), 3) := by decide +kernel
theorem dX9_laysPoly_114 : decode cX9_laysPoly 114 = .ok (.iinc 2 1, 3) := by decide +kernel
theorem dX9_laysPoly_117 : decode cX9_laysPoly 117 = .ok (.goto (-52), 3) := by decide +kernel
theorem dX9_laysPoly_120 : decode cX9_laysPoly 120 = .ok (.iinc 1 1, 3) := by decide +kernel
theorem dX9_laysPoly_123 : decode cX9_laysPoly 123 = .ok (.goto (-106), 3) := by decide +kernel
theorem dX9_laysPoly_126 : decode cX9_laysPoly 126 = .ok (.return_, 1) := by decide +kernel
theorem dX9_laysEdgePoly_0 : decode cX9_laysEdgePoly 0 = .ok (.aload_n 0, 1) := by decide +kernel
theorem dX9_laysEdgePoly_1 : decode cX9_laysEdgePoly 1 = .ok (.iconst 0, 1) := by decide +kernel
theorem dX9_laysEdgePoly_2 : decode cX9_laysEdgePoly 2 = .ok (.invokevirtual 128, 3) := by decide +kernel
theorem dX9_laysEdgePoly_5 : decode cX9_laysEdgePoly 5 = .ok (.aload_n 0, 1) := by decide +kernel
theorem dX9_laysEdgePoly_6 : decode cX9_laysEdgePoly 6 = .ok (.invokevirtual 132, 3) := by decide +kernel
theorem dX9_laysEdgePoly_9 : decode cX9_laysEdgePoly 9 = .ok (.return_, 1) := by decide +kernel
theorem dX9_laysBassPoly_0 : decode cX9_laysBassPoly 0 = .ok (.aload_n 0, 1) := by decide +kernel
theorem dX9_laysBassPoly_1 : decode cX9_laysBassPoly 1 = .ok (.invokevirtual 135, 3) := by decide +kernel
theorem dX9_laysBassPoly_4 : decode cX9_laysBassPoly 4 = .ok (.aload_n 0, 1) := by decide +kernel
theorem dX9_laysBassPoly_5 : decode cX9_laysBassPoly 5 = .ok (.invokevirtual 132, 3) := by decide +kernel
theorem dX9_laysBassPoly_8 : decode cX9_laysBassPoly 8 = .ok (.aload_n 0, 1) := by decide +kernel
theorem dX9_laysBassPoly_9 : decode cX9_laysBassPoly 9 = .ok (.getfield 7, 3) := by decide +kernel
theorem dX9_laysBassPoly_12 : decode cX9_laysBassPoly 12 = .ok (.iconst 1, 1) := by decide +kernel
theorem dX9_laysBassPoly_13 : decode cX9_laysBassPoly 13 = .ok (.iaload, 1) := by decide +kernel
theorem dX9_laysBassPoly_14 : decode cX9_laysBassPoly 14 = .ok (.aload_n 0, 1) := by decide +kernel
theorem dX9_laysBassPoly_15 : decode cX9_laysBassPoly 15 = .ok (.getfield 7, 3) := by decide +kernel
theorem dX9_laysBassPoly_18 : decode cX9_laysBassPoly 18 = .ok (.iconst 0, 1) := by decide +kernel
theorem dX9_laysBassPoly_19 : decode cX9_laysBassPoly 19 = .ok (.iaload, 1) := by decide +kernel
theorem dX9_laysBassPoly_20 : decode cX9_laysBassPoly 20 = .ok (.isub, 1) := by decide +kernel
theorem dX9_laysBassPoly_21 : decode cX9_laysBassPoly 21 = .ok (.istore_n 1, 1) := by decide +kernel
theorem dX9_laysBassPoly_22 : decode cX9_laysBassPoly 22 = .ok (.iconst 0, 1) := by decide +kernel
theorem dX9_laysBassPoly_23 : decode cX9_laysBassPoly 23 = .ok (.istore_n 2, 1) := by decide +kernel
theorem dX9_laysBassPoly_24 : decode cX9_laysBassPoly 24 = .ok (.iload_n 2, 1) := by decide +kernel
theorem dX9_laysBassPoly_25 : decode cX9_laysBassPoly 25 = .ok (.iload_n 1, 1) := by decide +kernel
theorem dX9_laysBassPoly_26 : decode cX9_laysBassPoly 26 = .ok (.if_icmp .ge 40, 3) := by decide +kernel
theorem dX9_laysBassPoly_29 : decode cX9_laysBassPoly 29 = .ok (.bipush 18, 2) := by decide +kernel
theorem dX9_laysBassPoly_31 : decode cX9_laysBassPoly 31 = .ok (.istore_n 3, 1) := by decide +kernel
theorem dX9_laysBassPoly_32 : decode cX9_laysBassPoly 32 = .ok (.iload_n 3, 1) := by decide +kernel
theorem dX9_laysBassPoly_33 : decode cX9_laysBassPoly 33 = .ok (.iconst 1, 1) := by decide +kernel
theorem dX9_laysBassPoly_34 : decode cX9_laysBassPoly 34 = .ok (.if_icmp .le 26, 3) := by decide +kernel
theorem dX9_laysBassPoly_37 : decode cX9_laysBassPoly 37 = .ok (.aload_n 0, 1) := by decide +kernel
theorem dX9_laysBassPoly_38 : decode cX9_laysBassPoly 38 = .ok (.getfield 35, 3) := by decide +kernel
theorem dX9_laysBassPoly_41 : decode cX9_laysBassPoly 41 = .ok (.iload_n 3, 1) := by decide +kernel
theorem dX9_laysBassPoly_42 : decode cX9_laysBassPoly 42 = .ok (.dup2, 1) := by decide +kernel
theorem dX9_laysBassPoly_43 : decode cX9_laysBassPoly 43 = .ok (.laload, 1) := by decide +kernel
theorem dX9_laysBassPoly_44 : decode cX9_laysBassPoly 44 = .ok (.aload_n 0, 1) := by decide +kernel
theorem dX9_laysBassPoly_45 : decode cX9_laysBassPoly 45 = .ok (.getfield 35, 3) := by decide +kernel
theorem dX9_laysBassPoly_48 : decode cX9_laysBassPoly 48 = .ok (.iload_n 3, 1) := by decide +kernel
theorem dX9_laysBassPoly_49 : decode cX9_laysBassPoly 49 = .ok (.iconst 2, 1) := by decide +kernel
theorem dX9_laysBassPoly_50 : decode cX9_laysBassPoly 50 = .ok (.isub, 1) := by decide +kernel
theorem dX9_laysBassPoly_51 : decode cX9_laysBassPoly 51 = .ok (.laload, 1) := by decide +kernel
theorem dX9_laysBassPoly_52 : decode cX9_laysBassPoly 52 = .ok (.lsub, 1) := by decide +kernel
theorem dX9_laysBassPoly_53 : decode cX9_laysBassPoly 53 = .ok (.lastore, 1) := by decide +kernel
theorem dX9_laysBassPoly_54 : decode cX9_laysBassPoly 54 = .ok (.iinc 3 (-1), 3) := by decide +kernel
theorem dX9_laysBassPoly_57 : decode cX9_laysBassPoly 57 = .ok (.goto (-25), 3) := by decide +kernel
theorem dX9_laysBassPoly_60 : decode cX9_laysBassPoly 60 = .ok (.iinc 2 1, 3) := by decide +kernel
theorem dX9_laysBassPoly_63 : decode cX9_laysBassPoly 63 = .ok (.goto (-39), 3) := by decide +kernel
theorem dX9_laysBassPoly_66 : decode cX9_laysBassPoly 66 = .ok (.iconst 0, 1) := by decide +kernel
theorem dX9_laysBassPoly_67 : decode cX9_laysBassPoly 67 = .ok (.istore_n 2, 1) := by decide +kernel
theorem dX9_laysBassPoly_68 : decode cX9_laysBassPoly 68 = .ok (.iload_n 2, 1) := by decide +kernel
theorem dX9_laysBassPoly_69 : decode cX9_laysBassPoly 69 = .ok (.iload_n 1, 1) := by decide +kernel
theorem dX9_laysBassPoly_70 : decode cX9_laysBassPoly 70 = .ok (.ineg, 1) := by decide +kernel
theorem dX9_laysBassPoly_71 : decode cX9_laysBassPoly 71 = .ok (.if_icmp .ge 40, 3) := by decide +kernel
theorem dX9_laysBassPoly_74 : decode cX9_laysBassPoly 74 = .ok (.iconst 2, 1) := by decide +kernel
theorem dX9_laysBassPoly_75 : decode cX9_laysBassPoly 75 = .ok (.istore_n 3, 1) := by decide +kernel
theorem dX9_laysBassPoly_76 : decode cX9_laysBassPoly 76 = .ok (.iload_n 3, 1) := by decide +kernel
theorem dX9_laysBassPoly_77 : decode cX9_laysBassPoly 77 = .ok (.bipush 19, 2) := by decide +kernel
theorem dX9_laysBassPoly_79 : decode cX9_laysBassPoly 79 = .ok (.if_icmp .ge 26, 3) := by decide +kernel
theorem dX9_laysBassPoly_82 : decode cX9_laysBassPoly 82 = .ok (.aload_n 0, 1) := by decide +kernel
theorem dX9_laysBassPoly_83 : decode cX9_laysBassPoly 83 = .ok (.getfield 35, 3) := by decide +kernel
theorem dX9_laysBassPoly_86 : decode cX9_laysBassPoly 86 = .ok (.iload_n 3, 1) := by decide +kernel
theorem dX9_laysBassPoly_87 : decode cX9_laysBassPoly 87 = .ok (.dup2, 1) := by decide +kernel
theorem dX9_laysBassPoly_88 : decode cX9_laysBassPoly 88 = .ok (.laload, 1) := by decide +kernel
theorem dX9_laysBassPoly_89 : decode cX9_laysBassPoly 89 = .ok (.aload_n 0, 1) := by decide +kernel
theorem dX9_laysBassPoly_90 : decode cX9_laysBassPoly 90 = .ok (.getfield 35, 3) := by decide +kernel
theorem dX9_laysBassPoly_93 : decode cX9_laysBassPoly 93 = .ok (.iload_n 3, 1) := by decide +kernel
theorem dX9_laysBassPoly_94 : decode cX9_laysBassPoly 94 = .ok (.iconst 2, 1) := by decide +kernel
theorem dX9_laysBassPoly_95 : decode cX9_laysBassPoly 95 = .ok (.isub, 1) := by decide +kernel
theorem dX9_laysBassPoly_96 : decode cX9_laysBassPoly 96 = .ok (.laload, 1) := by decide +kernel
theorem dX9_laysBassPoly_97 : decode cX9_laysBassPoly 97 = .ok (.ladd, 1) := by decide +kernel
theorem dX9_laysBassPoly_98 : decode cX9_laysBassPoly 98 = .ok (.lastore, 1) := by decide +kernel
theorem dX9_laysBassPoly_99 : decode cX9_laysBassPoly 99 = .ok (.iinc 3 1, 3) := by decide +kernel
theorem dX9_laysBassPoly_102 : decode cX9_laysBassPoly 102 = .ok (.goto (-26), 3) := by decide +kernel
theorem dX9_laysBassPoly_105 : decode cX9_laysBassPoly 105 = .ok (.iinc 2 1, 3) := by decide +kernel
theorem dX9_laysBassPoly_108 : decode cX9_laysBassPoly 108 = .ok (.goto (-40), 3) := by decide +kernel
theorem dX9_laysBassPoly_111 : decode cX9_laysBassPoly 111 = .ok (.return_, 1) := by decide +kernel
theorem dX9_goesOn_0 : decode cX9_goesOn 0 = .ok (.iconst 0, 1) := by decide +kernel
theorem dX9_goesOn_1 : decode cX9_goesOn 1 = .ok (.istore_n 1, 1) := by decide +kernel
theorem dX9_goesOn_2 : decode cX9_goesOn 2 = .ok (.iload_n 1, 1) := by decide +kernel
theorem dX9_goesOn_3 : decode cX9_goesOn 3 = .ok (.aload_n 0, 1) := by decide +kernel
theorem dX9_goesOn_4 : decode cX9_goesOn 4 = .ok (.getfield 117, 3) := by decide +kernel
theorem dX9_goesOn_7 : decode cX9_goesOn 7 = .ok (.if_icmp .ge 85, 3) := by decide +kernel
theorem dX9_goesOn_10 : decode cX9_goesOn 10 = .ok (.iconst 0, 1) := by decide +kernel
theorem dX9_goesOn_11 : decode cX9_goesOn 11 = .ok (.istore_n 2, 1) := by decide +kernel
theorem dX9_goesOn_12 : decode cX9_goesOn 12 = .ok (.iload_n 2, 1) := by decide +kernel
theorem dX9_goesOn_13 : decode cX9_goesOn 13 = .ok (.aload_n 0, 1) := by decide +kernel
theorem dX9_goesOn_14 : decode cX9_goesOn 14 = .ok (.getfield 117, 3) := by decide +kernel
theorem dX9_goesOn_17 : decode cX9_goesOn 17 = .ok (.if_icmp .ge 69, 3) := by decide +kernel
theorem dX9_goesOn_20 : decode cX9_goesOn 20 = .ok (.lconst 0, 1) := by decide +kernel
theorem dX9_goesOn_21 : decode cX9_goesOn 21 = .ok (.lstore_n 3, 1) := by decide +kernel
theorem dX9_goesOn_22 : decode cX9_goesOn 22 = .ok (.iconst 0, 1) := by decide +kernel
theorem dX9_goesOn_23 : decode cX9_goesOn 23 = .ok (.istore 5, 2) := by decide +kernel
theorem dX9_goesOn_25 : decode cX9_goesOn 25 = .ok (.iload 5, 2) := by decide +kernel
theorem dX9_goesOn_27 : decode cX9_goesOn 27 = .ok (.aload_n 0, 1) := by decide +kernel
theorem dX9_goesOn_28 : decode cX9_goesOn 28 = .ok (.getfield 117, 3) := by decide +kernel
theorem dX9_goesOn_31 : decode cX9_goesOn 31 = .ok (.if_icmp .ge 37, 3) := by decide +kernel
theorem dX9_goesOn_34 : decode cX9_goesOn 34 = .ok (.lload_n 3, 1) := by decide +kernel
theorem dX9_goesOn_35 : decode cX9_goesOn 35 = .ok (.aload_n 0, 1) := by decide +kernel
theorem dX9_goesOn_36 : decode cX9_goesOn 36 = .ok (.getfield 29, 3) := by decide +kernel
theorem dX9_goesOn_39 : decode cX9_goesOn 39 = .ok (.bipush 18, 2) := by decide +kernel
theorem dX9_goesOn_41 : decode cX9_goesOn 41 = .ok (.iload_n 1, 1) := by decide +kernel
theorem dX9_goesOn_42 : decode cX9_goesOn 42 = .ok (.imul, 1) := by decide +kernel
theorem dX9_goesOn_43 : decode cX9_goesOn 43 = .ok (.iload 5, 2) := by decide +kernel
theorem dX9_goesOn_45 : decode cX9_goesOn 45 = .ok (.iadd, 1) := by decide +kernel
theorem dX9_goesOn_46 : decode cX9_goesOn 46 = .ok (.laload, 1) := by decide +kernel
theorem dX9_goesOn_47 : decode cX9_goesOn 47 = .ok (.aload_n 0, 1) := by decide +kernel
theorem dX9_goesOn_48 : decode cX9_goesOn 48 = .ok (.getfield 25, 3) := by decide +kernel
theorem dX9_goesOn_51 : decode cX9_goesOn 51 = .ok (.bipush 18, 2) := by decide +kernel
theorem dX9_goesOn_53 : decode cX9_goesOn 53 = .ok (.iload 5, 2) := by decide +kernel
theorem dX9_goesOn_55 : decode cX9_goesOn 55 = .ok (.imul, 1) := by decide +kernel
theorem dX9_goesOn_56 : decode cX9_goesOn 56 = .ok (.iload_n 2, 1) := by decide +kernel
theorem dX9_goesOn_57 : decode cX9_goesOn 57 = .ok (.iadd, 1) := by decide +kernel
theorem dX9_goesOn_58 : decode cX9_goesOn 58 = .ok (.laload, 1) := by decide +kernel
theorem dX9_goesOn_59 : decode cX9_goesOn 59 = .ok (.lmul, 1) := by decide +kernel
theorem dX9_goesOn_60 : decode cX9_goesOn 60 = .ok (.ladd, 1) := by decide +kernel
theorem dX9_goesOn_61 : decode cX9_goesOn 61 = .ok (.lstore_n 3, 1) := by decide +kernel
theorem dX9_goesOn_62 : decode cX9_goesOn 62 = .ok (.iinc 5 1, 3) := by decide +kernel
theorem dX9_goesOn_65 : decode cX9_goesOn 65 = .ok (.goto (-40), 3) := by decide +kernel
theorem dX9_goesOn_68 : decode cX9_goesOn 68 = .ok (.aload_n 0, 1) := by decide +kernel
theorem dX9_goesOn_69 : decode cX9_goesOn 69 = .ok (.getfield 32, 3) := by decide +kernel
theorem dX9_goesOn_72 : decode cX9_goesOn 72 = .ok (.bipush 18, 2) := by decide +kernel
theorem dX9_goesOn_74 : decode cX9_goesOn 74 = .ok (.iload_n 1, 1) := by decide +kernel
theorem dX9_goesOn_75 : decode cX9_goesOn 75 = .ok (.imul, 1) := by decide +kernel
theorem dX9_goesOn_76 : decode cX9_goesOn 76 = .ok (.iload_n 2, 1) := by decide +kernel
theorem dX9_goesOn_77 : decode cX9_goesOn 77 = .ok (.iadd, 1) := by decide +kernel
theorem dX9_goesOn_78 : decode cX9_goesOn 78 = .ok (.lload_n 3, 1) := by decide +kernel
theorem dX9_goesOn_79 : decode cX9_goesOn 79 = .ok (.lastore, 1) := by decide +kernel
theorem dX9_goesOn_80 : decode cX9_goesOn 80 = .ok (.iinc 2 1, 3) := by decide +kernel
theorem dX9_goesOn_83 : decode cX9_goesOn 83 = .ok (.goto (-71), 3) := by decide +kernel
theorem dX9_goesOn_86 : decode cX9_goesOn 86 = .ok (.iinc 1 1, 3) := by decide +kernel
theorem dX9_goesOn_89 : decode cX9_goesOn 89 = .ok (.goto (-87), 3) := by decide +kernel
theorem dX9_goesOn_92 : decode cX9_goesOn 92 = .ok (.iconst 0, 1) := by decide +kernel
theorem dX9_goesOn_93 : decode cX9_goesOn 93 = .ok (.istore_n 1, 1) := by decide +kernel
theorem dX9_goesOn_94 : decode cX9_goesOn 94 = .ok (.iload_n 1, 1) := by decide +kernel
theorem dX9_goesOn_95 : decode cX9_goesOn 95 = .ok (.bipush 18, 2) := by decide +kernel
theorem dX9_goesOn_97 : decode cX9_goesOn 97 = .ok (.aload_n 0, 1) := by decide +kernel
theorem dX9_goesOn_98 : decode cX9_goesOn 98 = .ok (.getfield 117, 3) := by decide +kernel
theorem dX9_goesOn_101 : decode cX9_goesOn 101 = .ok (.imul, 1) := by decide +kernel
theorem dX9_goesOn_102 : decode cX9_goesOn 102 = .ok (.if_icmp .ge 21, 3) := by decide +kernel
theorem dX9_goesOn_105 : decode cX9_goesOn 105 = .ok (.aload_n 0, 1) := by decide +kernel
theorem dX9_goesOn_106 : decode cX9_goesOn 106 = .ok (.getfield 29, 3) := by decide +kernel
theorem dX9_goesOn_109 : decode cX9_goesOn 109 = .ok (.iload_n 1, 1) := by decide +kernel
theorem dX9_goesOn_110 : decode cX9_goesOn 110 = .ok (.aload_n 0, 1) := by decide +kernel
theorem dX9_goesOn_111 : decode cX9_goesOn 111 = .ok (.getfield 32, 3) := by decide +kernel
theorem dX9_goesOn_114 : decode cX9_goesOn 114 = .ok (.iload_n 1, 1) := by decide +kernel
theorem dX9_goesOn_115 : decode cX9_goesOn 115 = .ok (.laload, 1) := by decide +kernel
theorem dX9_goesOn_116 : decode cX9_goesOn 116 = .ok (.lastore, 1) := by decide +kernel
theorem dX9_goesOn_117 : decode cX9_goesOn 117 = .ok (.iinc 1 1, 3) := by decide +kernel
theorem dX9_goesOn_120 : decode cX9_goesOn 120 = .ok (.goto (-26), 3) := by decide +kernel
theorem dX9_goesOn_123 : decode cX9_goesOn 123 = .ok (.return_, 1) := by decide +kernel
theorem dX9_laysTraces_0 : decode cX9_laysTraces 0 = .ok (.aload_n 0, 1) := by decide +kernel
theorem dX9_laysTraces_1 : decode cX9_laysTraces 1 = .ok (.iload_n 1, 1) := by decide +kernel
theorem dX9_laysTraces_2 : decode cX9_laysTraces 2 = .ok (.invokevirtual 128, 3) := by decide +kernel
theorem dX9_laysTraces_5 : decode cX9_laysTraces 5 = .ok (.iconst 0, 1) := by decide +kernel
theorem dX9_laysTraces_6 : decode cX9_laysTraces 6 = .ok (.istore 4, 2) := by decide +kernel
theorem dX9_laysTraces_8 : decode cX9_laysTraces 8 = .ok (.iload 4, 2) := by decide +kernel
theorem dX9_laysTraces_10 : decode cX9_laysTraces 10 = .ok (.bipush 18, 2) := by decide +kernel
theorem dX9_laysTraces_12 : decode cX9_laysTraces 12 = .ok (.aload_n 0, 1) := by decide +kernel
theorem dX9_laysTraces_13 : decode cX9_laysTraces 13 = .ok (.getfield 117, 3) := by decide +kernel
theorem dX9_laysTraces_16 : decode cX9_laysTraces 16 = .ok (.imul, 1) := by decide +kernel
theorem dX9_laysTraces_17 : decode cX9_laysTraces 17 = .ok (.if_icmp .ge 23, 3) := by decide +kernel
theorem dX9_laysTraces_20 : decode cX9_laysTraces 20 = .ok (.aload_n 0, 1) := by decide +kernel
theorem dX9_laysTraces_21 : decode cX9_laysTraces 21 = .ok (.getfield 29, 3) := by decide +kernel
theorem dX9_laysTraces_24 : decode cX9_laysTraces 24 = .ok (.iload 4, 2) := by decide +kernel
theorem dX9_laysTraces_26 : decode cX9_laysTraces 26 = .ok (.aload_n 0, 1) := by decide +kernel
theorem dX9_laysTraces_27 : decode cX9_laysTraces 27 = .ok (.getfield 25, 3) := by decide +kernel
theorem dX9_laysTraces_30 : decode cX9_laysTraces 30 = .ok (.iload 4, 2) := by decide +kernel
theorem dX9_laysTraces_32 : decode cX9_laysTraces 32 = .ok (.laload, 1) := by decide +kernel
theorem dX9_laysTraces_33 : decode cX9_laysTraces 33 = .ok (.lastore, 1) := by decide +kernel
theorem dX9_laysTraces_34 : decode cX9_laysTraces 34 = .ok (.iinc 4 1, 3) := by decide +kernel
theorem dX9_laysTraces_37 : decode cX9_laysTraces 37 = .ok (.goto (-29), 3) := by decide +kernel
theorem dX9_laysTraces_40 : decode cX9_laysTraces 40 = .ok (.iconst 1, 1) := by decide +kernel
theorem dX9_laysTraces_41 : decode cX9_laysTraces 41 = .ok (.istore 4, 2) := by decide +kernel
theorem dX9_laysTraces_43 : decode cX9_laysTraces 43 = .ok (.iload 4, 2) := by decide +kernel
theorem dX9_laysTraces_45 : decode cX9_laysTraces 45 = .ok (.iload_n 2, 1) := by decide +kernel
theorem dX9_laysTraces_46 : decode cX9_laysTraces 46 = .ok (.if_icmp .gt 62, 3) := by decide +kernel
theorem dX9_laysTraces_49 : decode cX9_laysTraces 49 = .ok (.iload 4, 2) := by decide +kernel
theorem dX9_laysTraces_51 : decode cX9_laysTraces 51 = .ok (.iconst 1, 1) := by decide +kernel
theorem dX9_laysTraces_52 : decode cX9_laysTraces 52 = .ok (.if_icmp .le 7, 3) := by decide +kernel
theorem dX9_laysTraces_55 : decode cX9_laysTraces 55 = .ok (.aload_n 0, 1) := by decide +kernel
theorem dX9_laysTraces_56 : decode cX9_laysTraces 56 = .ok (.invokevirtual 138, 3) := by decide +kernel
theorem dX9_laysTraces_59 : decode cX9_laysTraces 59 = .ok (.aload_n 3, 1) := by decide +kernel
theorem dX9_laysTraces_60 : decode cX9_laysTraces 60 = .ok (.iload 4, 2) := by decide +kernel
theorem dX9_laysTraces_62 : decode cX9_laysTraces 62 = .ok (.lconst 0, 1) := by decide +kernel
theorem dX9_laysTraces_63 : decode cX9_laysTraces 63 = .ok (.lastore, 1) := by decide +kernel
theorem dX9_laysTraces_64 : decode cX9_laysTraces 64 = .ok (.iconst 0, 1) := by decide +kernel
theorem dX9_laysTraces_65 : decode cX9_laysTraces 65 = .ok (.istore 5, 2) := by decide +kernel
theorem dX9_laysTraces_67 : decode cX9_laysTraces 67 = .ok (.iload 5, 2) := by decide +kernel
theorem dX9_laysTraces_69 : decode cX9_laysTraces 69 = .ok (.aload_n 0, 1) := by decide +kernel
theorem dX9_laysTraces_70 : decode cX9_laysTraces 70 = .ok (.getfield 117, 3) := by decide +kernel
theorem dX9_laysTraces_73 : decode cX9_laysTraces 73 = .ok (.if_icmp .ge 29, 3) := by decide +kernel
theorem dX9_laysTraces_76 : decode cX9_laysTraces 76 = .ok (.aload_n 3, 1) := by decide +kernel
theorem dX9_laysTraces_77 : decode cX9_laysTraces 77 = .ok (.iload 4, 2) := by decide +kernel
theorem dX9_laysTraces_79 : decode cX9_laysTraces 79 = .ok (.dup2, 1) := by decide +kernel
theorem dX9_laysTraces_80 : decode cX9_laysTraces 80 = .ok (.laload, 1) := by decide +kernel
theorem dX9_laysTraces_81 : decode cX9_laysTraces 81 = .ok (.aload_n 0, 1) := by decide +kernel
theorem dX9_laysTraces_82 : decode cX9_laysTraces 82 = .ok (.getfield 29, 3) := by decide +kernel
theorem dX9_laysTraces_85 : decode cX9_laysTraces 85 = .ok (.bipush 18, 2) := by decide +kernel
theorem dX9_laysTraces_87 : decode cX9_laysTraces 87 = .ok (.iload 5, 2) := by decide +kernel
theorem dX9_laysTraces_89 : decode cX9_laysTraces 89 = .ok (.imul, 1) := by decide +kernel
theorem dX9_laysTraces_90 : decode cX9_laysTraces 90 = .ok (.iload 5, 2) := by decide +kernel
theorem dX9_laysTraces_92 : decode cX9_laysTraces 92 = .ok (.iadd, 1) := by decide +kernel
theorem dX9_laysTraces_93 : decode cX9_laysTraces 93 = .ok (.laload, 1) := by decide +kernel
theorem dX9_laysTraces_94 : decode cX9_laysTraces 94 = .ok (.ladd, 1) := by decide +kernel
theorem dX9_laysTraces_95 : decode cX9_laysTraces 95 = .ok (.lastore, 1) := by decide +kernel
theorem dX9_laysTraces_96 : decode cX9_laysTraces 96 = .ok (.iinc 5 1, 3) := by decide +kernel
theorem dX9_laysTraces_99 : decode cX9_laysTraces 99 = .ok (.goto (-32), 3) := by decide +kernel
theorem dX9_laysTraces_102 : decode cX9_laysTraces 102 = .ok (.iinc 4 1, 3) := by decide +kernel
theorem dX9_laysTraces_105 : decode cX9_laysTraces 105 = .ok (.goto (-62), 3) := by decide +kernel
theorem dX9_laysTraces_108 : decode cX9_laysTraces 108 = .ok (.return_, 1) := by decide +kernel
theorem dX9_isLength_0 : decode cX9_isLength 0 = .ok (.iload_n 0, 1) := by decide +kernel
theorem dX9_isLength_1 : decode cX9_isLength 1 = .ok (.iconst 1, 1) := by decide +kernel
theorem dX9_isLength_2 : decode cX9_isLength 2 = .ok (.bipush 18, 2) := by decide +kernel
theorem dX9_isLength_4 : decode cX9_isLength 4 = .ok (.invokestatic 65, 3) := by decide +kernel
theorem dX9_isLength_7 : decode cX9_isLength 7 = .ok (.ireturn, 1) := by decide +kernel
theorem dX9_walksOf_0 : decode cX9_walksOf 0 = .ok (.aload_n 0, 1) := by decide +kernel
theorem dX9_walksOf_1 : decode cX9_walksOf 1 = .ok (.iload_n 1, 1) := by decide +kernel
theorem dX9_walksOf_2 : decode cX9_walksOf 2 = .ok (.iload_n 2, 1) := by decide +kernel
theorem dX9_walksOf_3 : decode cX9_walksOf 3 = .ok (.aload_n 0, 1) := by decide +kernel
theorem dX9_walksOf_4 : decode cX9_walksOf 4 = .ok (.getfield 50, 3) := by decide +kernel
theorem dX9_walksOf_7 : decode cX9_walksOf 7 = .ok (.invokevirtual 141, 3) := by decide +kernel
theorem dX9_walksOf_10 : decode cX9_walksOf 10 = .ok (.aload_n 0, 1) := by decide +kernel
theorem dX9_walksOf_11 : decode cX9_walksOf 11 = .ok (.getfield 50, 3) := by decide +kernel
theorem dX9_walksOf_14 : decode cX9_walksOf 14 = .ok (.iload_n 2, 1) := by decide +kernel
theorem dX9_walksOf_15 : decode cX9_walksOf 15 = .ok (.laload, 1) := by decide +kernel
theorem dX9_walksOf_16 : decode cX9_walksOf 16 = .ok (.lreturn, 1) := by decide +kernel
theorem dX9_walks_0 : decode cX9_walks 0 = .ok (.iload_n 1, 1) := by decide +kernel
theorem dX9_walks_1 : decode cX9_walks 1 = .ok (.invokestatic 145, 3) := by decide +kernel
theorem dX9_walks_4 : decode cX9_walks 4 = .ok (.ifCond .eq 12, 3) := by decide +kernel
theorem dX9_walks_7 : decode cX9_walks 7 = .ok (.aload_n 0, 1) := by decide +kernel
theorem dX9_walks_8 : decode cX9_walks 8 = .ok (.iconst 0, 1) := by decide +kernel
theorem dX9_walks_9 : decode cX9_walks 9 = .ok (.iload_n 1, 1) := by decide +kernel
theorem dX9_walks_10 : decode cX9_walks 10 = .ok (.invokevirtual 148, 3) := by decide +kernel
theorem dX9_walks_13 : decode cX9_walks 13 = .ok (.goto 6, 3) := by decide +kernel
theorem dX9_walks_16 : decode cX9_walks 16 = .ok (.ldc2_w 152, 3) := by decide +kernel
theorem dX9_walks_19 : decode cX9_walks 19 = .ok (.lreturn, 1) := by decide +kernel
theorem dX9_signedWalks_0 : decode cX9_signedWalks 0 = .ok (.iload_n 1, 1) := by decide +kernel
theorem dX9_signedWalks_1 : decode cX9_signedWalks 1 = .ok (.invokestatic 145, 3) := by decide +kernel
theorem dX9_signedWalks_4 : decode cX9_signedWalks 4 = .ok (.ifCond .eq 12, 3) := by decide +kernel
theorem dX9_signedWalks_7 : decode cX9_signedWalks 7 = .ok (.aload_n 0, 1) := by decide +kernel
theorem dX9_signedWalks_8 : decode cX9_signedWalks 8 = .ok (.iconst 1, 1) := by decide +kernel
theorem dX9_signedWalks_9 : decode cX9_signedWalks 9 = .ok (.iload_n 1, 1) := by decide +kernel
theorem dX9_signedWalks_10 : decode cX9_signedWalks 10 = .ok (.invokevirtual 148, 3) := by decide +kernel
theorem dX9_signedWalks_13 : decode cX9_signedWalks 13 = .ok (.goto 6, 3) := by decide +kernel
theorem dX9_signedWalks_16 : decode cX9_signedWalks 16 = .ok (.ldc2_w 152, 3) := by decide +kernel
theorem dX9_signedWalks_19 : decode cX9_signedWalks 19 = .ok (.lreturn, 1) := by decide +kernel
theorem dX9_coverWalks_0 : decode cX9_coverWalks 0 = .ok (.iload_n 1, 1) := by decide +kernel
theorem dX9_coverWalks_1 : decode cX9_coverWalks 1 = .ok (.invokestatic 145, 3) := by decide +kernel
theorem dX9_coverWalks_4 : decode cX9_coverWalks 4 = .ok (.ifCond .eq 19, 3) := by decide +kernel
theorem dX9_coverWalks_7 : decode cX9_coverWalks 7 = .ok (.aload_n 0, 1) := by decide +kernel
theorem dX9_coverWalks_8 : decode cX9_coverWalks 8 = .ok (.iconst 0, 1) := by decide +kernel
theorem dX9_coverWalks_9 : decode cX9_coverWalks 9 = .ok (.iload_n 1, 1) := by decide +kernel
theorem dX9_coverWalks_10 : decode cX9_coverWalks 10 = .ok (.invokevirtual 148, 3) := by decide +kernel
theorem dX9_coverWalks_13 : decode cX9_coverWalks 13 = .ok (.aload_n 0, 1) := by decide +kernel
theorem dX9_coverWalks_14 : decode cX9_coverWalks 14 = .ok (.iconst 1, 1) := by decide +kernel
theorem dX9_coverWalks_15 : decode cX9_coverWalks 15 = .ok (.iload_n 1, 1) := by decide +kernel
theorem dX9_coverWalks_16 : decode cX9_coverWalks 16 = .ok (.invokevirtual 148, 3) := by decide +kernel
theorem dX9_coverWalks_19 : decode cX9_coverWalks 19 = .ok (.ladd, 1) := by decide +kernel
theorem dX9_coverWalks_20 : decode cX9_coverWalks 20 = .ok (.goto 6, 3) := by decide +kernel
theorem dX9_coverWalks_23 : decode cX9_coverWalks 23 = .ok (.ldc2_w 152, 3) := by decide +kernel
theorem dX9_coverWalks_26 : decode cX9_coverWalks 26 = .ok (.lreturn, 1) := by decide +kernel
theorem dX9_laysPrimes_0 : decode cX9_laysPrimes 0 = .ok (.aload_n 0, 1) := by decide +kernel
theorem dX9_laysPrimes_1 : decode cX9_laysPrimes 1 = .ok (.iconst 0, 1) := by decide +kernel
theorem dX9_laysPrimes_2 : decode cX9_laysPrimes 2 = .ok (.iload_n 1, 1) := by decide +kernel
theorem dX9_laysPrimes_3 : decode cX9_laysPrimes 3 = .ok (.aload_n 0, 1) := by decide +kernel
theorem dX9_laysPrimes_4 : decode cX9_laysPrimes 4 = .ok (.getfield 50, 3) := by decide +kernel
theorem dX9_laysPrimes_7 : decode cX9_laysPrimes 7 = .ok (.invokevirtual 141, 3) := by decide +kernel
theorem dX9_laysPrimes_10 : decode cX9_laysPrimes 10 = .ok (.aload_n 0, 1) := by decide +kernel
theorem dX9_laysPrimes_11 : decode cX9_laysPrimes 11 = .ok (.iconst 1, 1) := by decide +kernel
theorem dX9_laysPrimes_12 : decode cX9_laysPrimes 12 = .ok (.iload_n 1, 1) := by decide +kernel
theorem dX9_laysPrimes_13 : decode cX9_laysPrimes 13 = .ok (.aload_n 0, 1) := by decide +kernel
theorem dX9_laysPrimes_14 : decode cX9_laysPrimes 14 = .ok (.getfield 53, 3) := by decide +kernel
theorem dX9_laysPrimes_17 : decode cX9_laysPrimes 17 = .ok (.invokevirtual 141, 3) := by decide +kernel
theorem dX9_laysPrimes_20 : decode cX9_laysPrimes 20 = .ok (.iconst 1, 1) := by decide +kernel
theorem dX9_laysPrimes_21 : decode cX9_laysPrimes 21 = .ok (.istore_n 2, 1) := by decide +kernel
theorem dX9_laysPrimes_22 : decode cX9_laysPrimes 22 = .ok (.iload_n 2, 1) := by decide +kernel
theorem dX9_laysPrimes_23 : decode cX9_laysPrimes 23 = .ok (.iload_n 1, 1) := by decide +kernel
theorem dX9_laysPrimes_24 : decode cX9_laysPrimes 24 = .ok (.if_icmp .gt 153, 3) := by decide +kernel
theorem dX9_laysPrimes_27 : decode cX9_laysPrimes 27 = .ok (.aload_n 0, 1) := by decide +kernel
theorem dX9_laysPrimes_28 : decode cX9_laysPrimes 28 = .ok (.getfield 50, 3) := by decide +kernel
theorem dX9_laysPrimes_31 : decode cX9_laysPrimes 31 = .ok (.iload_n 2, 1) := by decide +kernel
theorem dX9_laysPrimes_32 : decode cX9_laysPrimes 32 = .ok (.laload, 1) := by decide +kernel
theorem dX9_laysPrimes_33 : decode cX9_laysPrimes 33 = .ok (.lstore_n 3, 1) := by decide +kernel
theorem dX9_laysPrimes_34 : decode cX9_laysPrimes 34 = .ok (.aload_n 0, 1) := by decide +kernel
theorem dX9_laysPrimes_35 : decode cX9_laysPrimes 35 = .ok (.getfield 53, 3) := by decide +kernel
theorem dX9_laysPrimes_38 : decode cX9_laysPrimes 38 = .ok (.iload_n 2, 1) := by decide +kernel
theorem dX9_laysPrimes_39 : decode cX9_laysPrimes 39 = .ok (.laload, 1) := by decide +kernel
theorem dX9_laysPrimes_40 : decode cX9_laysPrimes 40 = .ok (.lstore 5, 2) := by decide +kernel
theorem dX9_laysPrimes_42 : decode cX9_laysPrimes 42 = .ok (.iconst 1, 1) := by decide +kernel
theorem dX9_laysPrimes_43 : decode cX9_laysPrimes 43 = .ok (.istore 7, 2) := by decide +kernel
theorem dX9_laysPrimes_45 : decode cX9_laysPrimes 45 = .ok (.iload 7, 2) := by decide +kernel
theorem dX9_laysPrimes_47 : decode cX9_laysPrimes 47 = .ok (.iload_n 2, 1) := by decide +kernel
theorem dX9_laysPrimes_48 : decode cX9_laysPrimes 48 = .ok (.if_icmp .ge 89, 3) := by decide +kernel
theorem dX9_laysPrimes_51 : decode cX9_laysPrimes 51 = .ok (.iload_n 2, 1) := by decide +kernel
theorem dX9_laysPrimes_52 : decode cX9_laysPrimes 52 = .ok (.iload 7, 2) := by decide +kernel
theorem dX9_laysPrimes_54 : decode cX9_laysPrimes 54 = .ok (.irem, 1) := by decide +kernel
theorem dX9_laysPrimes_55 : decode cX9_laysPrimes 55 = .ok (.ifCond .ne 76, 3) := by decide +kernel
theorem dX9_laysPrimes_58 : decode cX9_laysPrimes 58 = .ok (.lload_n 3, 1) := by decide +kernel
theorem dX9_laysPrimes_59 : decode cX9_laysPrimes 59 = .ok (.iload 7, 2) := by decide +kernel
theorem dX9_laysPrimes_61 : decode cX9_laysPrimes 61 = .ok (.i2l, 1) := by decide +kernel
theorem dX9_laysPrimes_62 : decode cX9_laysPrimes 62 = .ok (.aload_n 0, 1) := by decide +kernel
theorem dX9_laysPrimes_63 : decode cX9_laysPrimes 63 = .ok (.getfield 56, 3) := by decide +kernel
theorem dX9_laysPrimes_66 : decode cX9_laysPrimes 66 = .ok (.iload 7, 2) := by decide +kernel
theorem dX9_laysPrimes_68 : decode cX9_laysPrimes 68 = .ok (.laload, 1) := by decide +kernel
theorem dX9_laysPrimes_69 : decode cX9_laysPrimes 69 = .ok (.aload_n 0, 1) := by decide +kernel
theorem dX9_laysPrimes_70 : decode cX9_laysPrimes 70 = .ok (.getfield 59, 3) := by decide +kernel
theorem dX9_laysPrimes_73 : decode cX9_laysPrimes 73 = .ok (.iload 7, 2) := by decide +kernel
theorem dX9_laysPrimes_75 : decode cX9_laysPrimes 75 = .ok (.laload, 1) := by decide +kernel
theorem dX9_laysPrimes_76 : decode cX9_laysPrimes 76 = .ok (.ladd, 1) := by decide +kernel
theorem dX9_laysPrimes_77 : decode cX9_laysPrimes 77 = .ok (.lmul, 1) := by decide +kernel
theorem dX9_laysPrimes_78 : decode cX9_laysPrimes 78 = .ok (.lsub, 1) := by decide +kernel
theorem dX9_laysPrimes_79 : decode cX9_laysPrimes 79 = .ok (.lstore_n 3, 1) := by decide +kernel
theorem dX9_laysPrimes_80 : decode cX9_laysPrimes 80 = .ok (.lload 5, 2) := by decide +kernel
theorem dX9_laysPrimes_82 : decode cX9_laysPrimes 82 = .ok (.iload 7, 2) := by decide +kernel
theorem dX9_laysPrimes_84 : decode cX9_laysPrimes 84 = .ok (.i2l, 1) := by decide +kernel
theorem dX9_laysPrimes_85 : decode cX9_laysPrimes 85 = .ok (.iload_n 2, 1) := by decide +kernel
theorem dX9_laysPrimes_86 : decode cX9_laysPrimes 86 = .ok (.iload 7, 2) := by decide +kernel
theorem dX9_laysPrimes_88 : decode cX9_laysPrimes 88 = .ok (.idiv, 1) := by decide +kernel
theorem dX9_laysPrimes_89 : decode cX9_laysPrimes 89 = .ok (.iconst 2, 1) := by decide +kernel
theorem dX9_laysPrimes_90 : decode cX9_laysPrimes 90 = .ok (.irem, 1) := by decide +kernel
theorem dX9_laysPrimes_91 : decode cX9_laysPrimes 91 = .ok (.ifCond .ne 21, 3) := by decide +kernel
theorem dX9_laysPrimes_94 : decode cX9_laysPrimes 94 = .ok (.aload_n 0, 1) := by decide +kernel
theorem dX9_laysPrimes_95 : decode cX9_laysPrimes 95 = .ok (.getfield 56, 3) := by decide +kernel
theorem dX9_laysPrimes_98 : decode cX9_laysPrimes 98 = .ok (.iload 7, 2) := by decide +kernel
theorem dX9_laysPrimes_100 : decode cX9_laysPrimes 100 = .ok (.laload, 1) := by decide +kernel
theorem dX9_laysPrimes_101 : decode cX9_laysPrimes 101 = .ok (.aload_n 0, 1) := by decide +kernel
theorem dX9_laysPrimes_102 : decode cX9_laysPrimes 102 = .ok (.getfield 59, 3) := by decide +kernel
theorem dX9_laysPrimes_105 : decode cX9_laysPrimes 105 = .ok (.iload 7, 2) := by decide +kernel
theorem dX9_laysPrimes_107 : decode cX9_laysPrimes 107 = .ok (.laload, 1) := by decide +kernel
theorem dX9_laysPrimes_108 : decode cX9_laysPrimes 108 = .ok (.ladd, 1) := by decide +kernel
theorem dX9_laysPrimes_109 : decode cX9_laysPrimes 109 = .ok (.goto 18, 3) := by decide +kernel
theorem dX9_laysPrimes_112 : decode cX9_laysPrimes 112 = .ok (.aload_n 0, 1) := by decide +kernel
theorem dX9_laysPrimes_113 : decode cX9_laysPrimes 113 = .ok (.getfield 56, 3) := by decide +kernel
theorem dX9_laysPrimes_116 : decode cX9_laysPrimes 116 = .ok (.iload 7, 2) := by decide +kernel
theorem dX9_laysPrimes_118 : decode cX9_laysPrimes 118 = .ok (.laload, 1) := by decide +kernel
theorem dX9_laysPrimes_119 : decode cX9_laysPrimes 119 = .ok (.aload_n 0, 1) := by decide +kernel
theorem dX9_laysPrimes_120 : decode cX9_laysPrimes 120 = .ok (.getfield 59, 3) := by decide +kernel
theorem dX9_laysPrimes_123 : decode cX9_laysPrimes 123 = .ok (.iload 7, 2) := by decide +kernel
theorem dX9_laysPrimes_125 : decode cX9_laysPrimes 125 = .ok (.laload, 1) := by decide +kernel
theorem dX9_laysPrimes_126 : decode cX9_laysPrimes 126 = .ok (.lsub, 1) := by decide +kernel
theorem dX9_laysPrimes_127 : decode cX9_laysPrimes 127 = .ok (.lmul, 1) := by decide +kernel
theorem dX9_laysPrimes_128 : decode cX9_laysPrimes 128 = .ok (.lsub, 1) := by decide +kernel
theorem dX9_laysPrimes_129 : decode cX9_laysPrimes 129 = .ok (.lstore 5, 2) := by decide +kernel
theorem dX9_laysPrimes_131 : decode cX9_laysPrimes 131 = .ok (.iinc 7 1, 3) := by decide +kernel
theorem dX9_laysPrimes_134 : decode cX9_laysPrimes 134 = .ok (.goto (-89), 3) := by decide +kernel
theorem dX9_laysPrimes_137 : decode cX9_laysPrimes 137 = .ok (.aload_n 0, 1) := by decide +kernel
theorem dX9_laysPrimes_138 : decode cX9_laysPrimes 138 = .ok (.getfield 56, 3) := by decide +kernel
theorem dX9_laysPrimes_141 : decode cX9_laysPrimes 141 = .ok (.iload_n 2, 1) := by decide +kernel
theorem dX9_laysPrimes_142 : decode cX9_laysPrimes 142 = .ok (.lload_n 3, 1) := by decide +kernel
theorem dX9_laysPrimes_143 : decode cX9_laysPrimes 143 = .ok (.lload 5, 2) := by decide +kernel
theorem dX9_laysPrimes_145 : decode cX9_laysPrimes 145 = .ok (.ladd, 1) := by decide +kernel
theorem dX9_laysPrimes_146 : decode cX9_laysPrimes 146 = .ok (.ldc2_w 154, 3) := by decide +kernel
theorem dX9_laysPrimes_149 : decode cX9_laysPrimes 149 = .ok (.ldiv, 1) := by decide +kernel
theorem dX9_laysPrimes_150 : decode cX9_laysPrimes 150 = .ok (.iload_n 2, 1) := by decide +kernel
theorem dX9_laysPrimes_151 : decode cX9_laysPrimes 151 = .ok (.i2l, 1) := by decide +kernel
theorem dX9_laysPrimes_152 : decode cX9_laysPrimes 152 = .ok (.ldiv, 1) := by decide +kernel
theorem dX9_laysPrimes_153 : decode cX9_laysPrimes 153 = .ok (.lastore, 1) := by decide +kernel
theorem dX9_laysPrimes_154 : decode cX9_laysPrimes 154 = .ok (.aload_n 0, 1) := by decide +kernel
theorem dX9_laysPrimes_155 : decode cX9_laysPrimes 155 = .ok (.getfield 59, 3) := by decide +kernel
theorem dX9_laysPrimes_158 : decode cX9_laysPrimes 158 = .ok (.iload_n 2, 1) := by decide +kernel
theorem dX9_laysPrimes_159 : decode cX9_laysPrimes 159 = .ok (.lload_n 3, 1) := by decide +kernel
theorem dX9_laysPrimes_160 : decode cX9_laysPrimes 160 = .ok (.lload 5, 2) := by decide +kernel
theorem dX9_laysPrimes_162 : decode cX9_laysPrimes 162 = .ok (.lsub, 1) := by decide +kernel
theorem dX9_laysPrimes_163 : decode cX9_laysPrimes 163 = .ok (.ldc2_w 154, 3) := by decide +kernel
theorem dX9_laysPrimes_166 : decode cX9_laysPrimes 166 = .ok (.ldiv, 1) := by decide +kernel
theorem dX9_laysPrimes_167 : decode cX9_laysPrimes 167 = .ok (.iload_n 2, 1) := by decide +kernel
theorem dX9_laysPrimes_168 : decode cX9_laysPrimes 168 = .ok (.i2l, 1) := by decide +kernel
theorem dX9_laysPrimes_169 : decode cX9_laysPrimes 169 = .ok (.ldiv, 1) := by decide +kernel
theorem dX9_laysPrimes_170 : decode cX9_laysPrimes 170 = .ok (.lastore, 1) := by decide +kernel
theorem dX9_laysPrimes_171 : decode cX9_laysPrimes 171 = .ok (.iinc 2 1, 3) := by decide +kernel
theorem dX9_laysPrimes_174 : decode cX9_laysPrimes 174 = .ok (.goto (-152), 3) := by decide +kernel
theorem dX9_laysPrimes_177 : decode cX9_laysPrimes 177 = .ok (.return_, 1) := by decide +kernel
theorem dX9_primes_0 : decode cX9_primes 0 = .ok (.iload_n 1, 1) := by decide +kernel
theorem dX9_primes_1 : decode cX9_primes 1 = .ok (.invokestatic 145, 3) := by decide +kernel
theorem dX9_primes_4 : decode cX9_primes 4 = .ok (.ifCond .ne 7, 3) := by decide +kernel
theorem dX9_primes_7 : decode cX9_primes 7 = .ok (.ldc2_w 152, 3) := by decide +kernel
theorem dX9_primes_10 : decode cX9_primes 10 = .ok (.lreturn, 1) := by decide +kernel
theorem dX9_primes_11 : decode cX9_primes 11 = .ok (.aload_n 0, 1) := by decide +kernel
theorem dX9_primes_12 : decode cX9_primes 12 = .ok (.iload_n 1, 1) := by decide +kernel
theorem dX9_primes_13 : decode cX9_primes 13 = .ok (.invokevirtual 156, 3) := by decide +kernel
theorem dX9_primes_16 : decode cX9_primes 16 = .ok (.aload_n 0, 1) := by decide +kernel
theorem dX9_primes_17 : decode cX9_primes 17 = .ok (.getfield 56, 3) := by decide +kernel
theorem dX9_primes_20 : decode cX9_primes 20 = .ok (.iload_n 1, 1) := by decide +kernel
theorem dX9_primes_21 : decode cX9_primes 21 = .ok (.laload, 1) := by decide +kernel
theorem dX9_primes_22 : decode cX9_primes 22 = .ok (.aload_n 0, 1) := by decide +kernel
theorem dX9_primes_23 : decode cX9_primes 23 = .ok (.getfield 59, 3) := by decide +kernel
theorem dX9_primes_26 : decode cX9_primes 26 = .ok (.iload_n 1, 1) := by decide +kernel
theorem dX9_primes_27 : decode cX9_primes 27 = .ok (.laload, 1) := by decide +kernel
theorem dX9_primes_28 : decode cX9_primes 28 = .ok (.ladd, 1) := by decide +kernel
theorem dX9_primes_29 : decode cX9_primes 29 = .ok (.lreturn, 1) := by decide +kernel
theorem dX9_positivePrimes_0 : decode cX9_positivePrimes 0 = .ok (.iload_n 1, 1) := by decide +kernel
theorem dX9_positivePrimes_1 : decode cX9_positivePrimes 1 = .ok (.invokestatic 145, 3) := by decide +kernel
theorem dX9_positivePrimes_4 : decode cX9_positivePrimes 4 = .ok (.ifCond .ne 7, 3) := by decide +kernel
theorem dX9_positivePrimes_7 : decode cX9_positivePrimes 7 = .ok (.ldc2_w 152, 3) := by decide +kernel
theorem dX9_positivePrimes_10 : decode cX9_positivePrimes 10 = .ok (.lreturn, 1) := by decide +kernel
theorem dX9_positivePrimes_11 : decode cX9_positivePrimes 11 = .ok (.aload_n 0, 1) := by decide +kernel
theorem dX9_positivePrimes_12 : decode cX9_positivePrimes 12 = .ok (.iload_n 1, 1) := by decide +kernel
theorem dX9_positivePrimes_13 : decode cX9_positivePrimes 13 = .ok (.invokevirtual 156, 3) := by decide +kernel
theorem dX9_positivePrimes_16 : decode cX9_positivePrimes 16 = .ok (.aload_n 0, 1) := by decide +kernel
theorem dX9_positivePrimes_17 : decode cX9_positivePrimes 17 = .ok (.getfield 56, 3) := by decide +kernel
theorem dX9_positivePrimes_20 : decode cX9_positivePrimes 20 = .ok (.iload_n 1, 1) := by decide +kernel
theorem dX9_positivePrimes_21 : decode cX9_positivePrimes 21 = .ok (.laload, 1) := by decide +kernel
theorem dX9_positivePrimes_22 : decode cX9_positivePrimes 22 = .ok (.lreturn, 1) := by decide +kernel
theorem dX9_girth_0 : decode cX9_girth 0 = .ok (.aload_n 0, 1) := by decide +kernel
theorem dX9_girth_1 : decode cX9_girth 1 = .ok (.bipush 18, 2) := by decide +kernel
theorem dX9_girth_3 : decode cX9_girth 3 = .ok (.invokevirtual 156, 3) := by decide +kernel
theorem dX9_girth_6 : decode cX9_girth 6 = .ok (.iconst 1, 1) := by decide +kernel
theorem dX9_girth_7 : decode cX9_girth 7 = .ok (.istore_n 1, 1) := by decide +kernel
theorem dX9_girth_8 : decode cX9_girth 8 = .ok (.iload_n 1, 1) := by decide +kernel
theorem dX9_girth_9 : decode cX9_girth 9 = .ok (.bipush 18, 2) := by decide +kernel
theorem dX9_girth_11 : decode cX9_girth 11 = .ok (.if_icmp .gt 29, 3) := by decide +kernel
theorem dX9_girth_14 : decode cX9_girth 14 = .ok (.aload_n 0, 1) := by decide +kernel
theorem dX9_girth_15 : decode cX9_girth 15 = .ok (.getfield 56, 3) := by decide +kernel
theorem dX9_girth_18 : decode cX9_girth 18 = .ok (.iload_n 1, 1) := by decide +kernel
theorem dX9_girth_19 : decode cX9_girth 19 = .ok (.laload, 1) := by decide +kernel
theorem dX9_girth_20 : decode cX9_girth 20 = .ok (.aload_n 0, 1) := by decide +kernel
theorem dX9_girth_21 : decode cX9_girth 21 = .ok (.getfield 59, 3) := by decide +kernel
theorem dX9_girth_24 : decode cX9_girth 24 = .ok (.iload_n 1, 1) := by decide +kernel
theorem dX9_girth_25 : decode cX9_girth 25 = .ok (.laload, 1) := by decide +kernel
theorem dX9_girth_26 : decode cX9_girth 26 = .ok (.ladd, 1) := by decide +kernel
theorem dX9_girth_27 : decode cX9_girth 27 = .ok (.lconst 0, 1) := by decide +kernel
theorem dX9_girth_28 : decode cX9_girth 28 = .ok (.lcmp, 1) := by decide +kernel
theorem dX9_girth_29 : decode cX9_girth 29 = .ok (.ifCond .le 5, 3) := by decide +kernel
theorem dX9_girth_32 : decode cX9_girth 32 = .ok (.iload_n 1, 1) := by decide +kernel
theorem dX9_girth_33 : decode cX9_girth 33 = .ok (.ireturn, 1) := by decide +kernel
theorem dX9_girth_34 : decode cX9_girth 34 = .ok (.iinc 1 1, 3) := by decide +kernel
theorem dX9_girth_37 : decode cX9_girth 37 = .ok (.goto (-29), 3) := by decide +kernel
theorem dX9_girth_40 : decode cX9_girth 40 = .ok (.bipush (-9), 2) := by decide +kernel
theorem dX9_girth_42 : decode cX9_girth 42 = .ok (.ireturn, 1) := by decide +kernel
theorem dX9_period_0 : decode cX9_period 0 = .ok (.aload_n 0, 1) := by decide +kernel
theorem dX9_period_1 : decode cX9_period 1 = .ok (.bipush 18, 2) := by decide +kernel
theorem dX9_period_3 : decode cX9_period 3 = .ok (.invokevirtual 156, 3) := by decide +kernel
theorem dX9_period_6 : decode cX9_period 6 = .ok (.iconst 0, 1) := by decide +kernel
theorem dX9_period_7 : decode cX9_period 7 = .ok (.istore_n 1, 1) := by decide +kernel
theorem dX9_period_8 : decode cX9_period 8 = .ok (.iconst 1, 1) := by decide +kernel
theorem dX9_period_9 : decode cX9_period 9 = .ok (.istore_n 2, 1) := by decide +kernel
theorem dX9_period_10 : decode cX9_period 10 = .ok (.iload_n 2, 1) := by decide +kernel
theorem dX9_period_11 : decode cX9_period 11 = .ok (.bipush 18, 2) := by decide +kernel
theorem dX9_period_13 : decode cX9_period 13 = .ok (.if_icmp .gt 59, 3) := by decide +kernel
theorem dX9_period_16 : decode cX9_period 16 = .ok (.iload_n 2, 1) := by decide +kernel
theorem dX9_period_17 : decode cX9_period 17 = .ok (.istore_n 3, 1) := by decide +kernel
theorem dX9_period_18 : decode cX9_period 18 = .ok (.iload_n 1, 1) := by decide +kernel
theorem dX9_period_19 : decode cX9_period 19 = .ok (.istore 4, 2) := by decide +kernel
theorem dX9_period_21 : decode cX9_period 21 = .ok (.iload 4, 2) := by decide +kernel
theorem dX9_period_23 : decode cX9_period 23 = .ok (.ifCond .eq 19, 3) := by decide +kernel
theorem dX9_period_26 : decode cX9_period 26 = .ok (.iload_n 3, 1) := by decide +kernel
theorem dX9_period_27 : decode cX9_period 27 = .ok (.iload 4, 2) := by decide +kernel
theorem dX9_period_29 : decode cX9_period 29 = .ok (.irem, 1) := by decide +kernel
theorem dX9_period_30 : decode cX9_period 30 = .ok (.istore 5, 2) := by decide +kernel
theorem dX9_period_32 : decode cX9_period 32 = .ok (.iload 4, 2) := by decide +kernel
theorem dX9_period_34 : decode cX9_period 34 = .ok (.istore_n 3, 1) := by decide +kernel
theorem dX9_period_35 : decode cX9_period 35 = .ok (.iload 5, 2) := by decide +kernel
theorem dX9_period_37 : decode cX9_period 37 = .ok (.istore 4, 2) := by decide +kernel
theorem dX9_period_39 : decode cX9_period 39 = .ok (.goto (-18), 3) := by decide +kernel
theorem dX9_period_42 : decode cX9_period 42 = .ok (.aload_n 0, 1) := by decide +kernel
theorem dX9_period_43 : decode cX9_period 43 = .ok (.getfield 56, 3) := by decide +kernel
theorem dX9_period_46 : decode cX9_period 46 = .ok (.iload_n 2, 1) := by decide +kernel
theorem dX9_period_47 : decode cX9_period 47 = .ok (.laload, 1) := by decide +kernel
theorem dX9_period_48 : decode cX9_period 48 = .ok (.aload_n 0, 1) := by decide +kernel
theorem dX9_period_49 : decode cX9_period 49 = .ok (.getfield 59, 3) := by decide +kernel
theorem dX9_period_52 : decode cX9_period 52 = .ok (.iload_n 2, 1) := by decide +kernel
theorem dX9_period_53 : decode cX9_period 53 = .ok (.laload, 1) := by decide +kernel
theorem dX9_period_54 : decode cX9_period 54 = .ok (.ladd, 1) := by decide +kernel
theorem dX9_period_55 : decode cX9_period 55 = .ok (.lconst 0, 1) := by decide +kernel
theorem dX9_period_56 : decode cX9_period 56 = .ok (.lcmp, 1) := by decide +kernel
theorem dX9_period_57 : decode cX9_period 57 = .ok (.ifCond .le 7, 3) := by decide +kernel
theorem dX9_period_60 : decode cX9_period 60 = .ok (.iload_n 3, 1) := by decide +kernel
theorem dX9_period_61 : decode cX9_period 61 = .ok (.goto 4, 3) := by decide +kernel
theorem dX9_period_64 : decode cX9_period 64 = .ok (.iload_n 1, 1) := by decide +kernel
theorem dX9_period_65 : decode cX9_period 65 = .ok (.istore_n 1, 1) := by decide +kernel
theorem dX9_period_66 : decode cX9_period 66 = .ok (.iinc 2 1, 3) := by decide +kernel
theorem dX9_period_69 : decode cX9_period 69 = .ok (.goto (-59), 3) := by decide +kernel
theorem dX9_period_72 : decode cX9_period 72 = .ok (.iload_n 1, 1) := by decide +kernel
theorem dX9_period_73 : decode cX9_period 73 = .ok (.ifCond .ne 8, 3) := by decide +kernel
theorem dX9_period_76 : decode cX9_period 76 = .ok (.bipush (-9), 2) := by decide +kernel
theorem dX9_period_78 : decode cX9_period 78 = .ok (.goto 4, 3) := by decide +kernel
theorem dX9_period_81 : decode cX9_period 81 = .ok (.iload_n 1, 1) := by decide +kernel
theorem dX9_period_82 : decode cX9_period 82 = .ok (.ireturn, 1) := by decide +kernel
theorem dX9_isFirst_0 : decode cX9_isFirst 0 = .ok (.aload_n 0, 1) := by decide +kernel
theorem dX9_isFirst_1 : decode cX9_isFirst 1 = .ok (.aload_n 0, 1) := by decide +kernel
theorem dX9_isFirst_2 : decode cX9_isFirst 2 = .ok (.getfield 62, 3) := by decide +kernel
theorem dX9_isFirst_5 : decode cX9_isFirst 5 = .ok (.iload_n 1, 1) := by decide +kernel
theorem dX9_isFirst_6 : decode cX9_isFirst 6 = .ok (.iconst 1, 1) := by decide +kernel
theorem dX9_isFirst_7 : decode cX9_isFirst 7 = .ok (.isub, 1) := by decide +kernel
theorem dX9_isFirst_8 : decode cX9_isFirst 8 = .ok (.iaload, 1) := by decide +kernel
theorem dX9_isFirst_9 : decode cX9_isFirst 9 = .ok (.aload_n 0, 1) := by decide +kernel
theorem dX9_isFirst_10 : decode cX9_isFirst 10 = .ok (.getfield 62, 3) := by decide +kernel
theorem dX9_isFirst_13 : decode cX9_isFirst 13 = .ok (.iconst 0, 1) := by decide +kernel
theorem dX9_isFirst_14 : decode cX9_isFirst 14 = .ok (.iaload, 1) := by decide +kernel
theorem dX9_isFirst_15 : decode cX9_isFirst 15 = .ok (.invokevirtual 103, 3) := by decide +kernel
theorem dX9_isFirst_18 : decode cX9_isFirst 18 = .ok (.istore_n 2, 1) := by decide +kernel
theorem dX9_isFirst_19 : decode cX9_isFirst 19 = .ok (.iconst 1, 1) := by decide +kernel
theorem dX9_isFirst_20 : decode cX9_isFirst 20 = .ok (.istore_n 3, 1) := by decide +kernel
theorem dX9_isFirst_21 : decode cX9_isFirst 21 = .ok (.iload_n 3, 1) := by decide +kernel
theorem dX9_isFirst_22 : decode cX9_isFirst 22 = .ok (.iload_n 1, 1) := by decide +kernel
theorem dX9_isFirst_23 : decode cX9_isFirst 23 = .ok (.if_icmp .ge 82, 3) := by decide +kernel
theorem dX9_isFirst_26 : decode cX9_isFirst 26 = .ok (.iload_n 2, 1) := by decide +kernel
theorem dX9_isFirst_27 : decode cX9_isFirst 27 = .ok (.ifCond .eq 78, 3) := by decide +kernel
theorem dX9_isFirst_30 : decode cX9_isFirst 30 = .ok (.iconst 0, 1) := by decide +kernel
theorem dX9_isFirst_31 : decode cX9_isFirst 31 = .ok (.istore 4, 2) := by decide +kernel
theorem dX9_isFirst_33 : decode cX9_isFirst 33 = .ok (.iload 4, 2) := by decide +kernel
theorem dX9_isFirst_35 : decode cX9_isFirst 35 = .ok (.iload_n 1, 1) := by decide +kernel
theorem dX9_isFirst_36 : decode cX9_isFirst 36 = .ok (.if_icmp .ge 30, 3) := by decide +kernel
theorem dX9_isFirst_39 : decode cX9_isFirst 39 = .ok (.aload_n 0, 1) := by decide +kernel
theorem dX9_isFirst_40 : decode cX9_isFirst 40 = .ok (.getfield 62, 3) := by decide +kernel
theorem dX9_isFirst_43 : decode cX9_isFirst 43 = .ok (.iload 4, 2) := by decide +kernel
theorem dX9_isFirst_45 : decode cX9_isFirst 45 = .ok (.iaload, 1) := by decide +kernel
theorem dX9_isFirst_46 : decode cX9_isFirst 46 = .ok (.aload_n 0, 1) := by decide +kernel
theorem dX9_isFirst_47 : decode cX9_isFirst 47 = .ok (.getfield 62, 3) := by decide +kernel
theorem dX9_isFirst_50 : decode cX9_isFirst 50 = .ok (.iload 4, 2) := by decide +kernel
theorem dX9_isFirst_52 : decode cX9_isFirst 52 = .ok (.iload_n 3, 1) := by decide +kernel
theorem dX9_isFirst_53 : decode cX9_isFirst 53 = .ok (.iadd, 1) := by decide +kernel
theorem dX9_isFirst_54 : decode cX9_isFirst 54 = .ok (.iload_n 1, 1) := by decide +kernel
theorem dX9_isFirst_55 : decode cX9_isFirst 55 = .ok (.irem, 1) := by decide +kernel
theorem dX9_isFirst_56 : decode cX9_isFirst 56 = .ok (.iaload, 1) := by decide +kernel
theorem dX9_isFirst_57 : decode cX9_isFirst 57 = .ok (.if_icmp .ne 9, 3) := by decide +kernel
theorem dX9_isFirst_60 : decode cX9_isFirst 60 = .ok (.iinc 4 1, 3) := by decide +kernel
theorem dX9_isFirst_63 : decode cX9_isFirst 63 = .ok (.goto (-30), 3) := by decide +kernel
theorem dX9_isFirst_66 : decode cX9_isFirst 66 = .ok (.iload 4, 2) := by decide +kernel
theorem dX9_isFirst_68 : decode cX9_isFirst 68 = .ok (.iload_n 1, 1) := by decide +kernel
theorem dX9_isFirst_69 : decode cX9_isFirst 69 = .ok (.if_icmp .ge 28, 3) := by decide +kernel
theorem dX9_isFirst_72 : decode cX9_isFirst 72 = .ok (.aload_n 0, 1) := by decide +kernel
theorem dX9_isFirst_73 : decode cX9_isFirst 73 = .ok (.getfield 62, 3) := by decide +kernel
theorem dX9_isFirst_76 : decode cX9_isFirst 76 = .ok (.iload 4, 2) := by decide +kernel
theorem dX9_isFirst_78 : decode cX9_isFirst 78 = .ok (.iaload, 1) := by decide +kernel
theorem dX9_isFirst_79 : decode cX9_isFirst 79 = .ok (.aload_n 0, 1) := by decide +kernel
theorem dX9_isFirst_80 : decode cX9_isFirst 80 = .ok (.getfield 62, 3) := by decide +kernel
theorem dX9_isFirst_83 : decode cX9_isFirst 83 = .ok (.iload 4, 2) := by decide +kernel
theorem dX9_isFirst_85 : decode cX9_isFirst 85 = .ok (.iload_n 3, 1) := by decide +kernel
theorem dX9_isFirst_86 : decode cX9_isFirst 86 = .ok (.iadd, 1) := by decide +kernel
theorem dX9_isFirst_87 : decode cX9_isFirst 87 = .ok (.iload_n 1, 1) := by decide +kernel
theorem dX9_isFirst_88 : decode cX9_isFirst 88 = .ok (.irem, 1) := by decide +kernel
theorem dX9_isFirst_89 : decode cX9_isFirst 89 = .ok (.iaload, 1) := by decide +kernel
theorem dX9_isFirst_90 : decode cX9_isFirst 90 = .ok (.if_icmp .ge 7, 3) := by decide +kernel
theorem dX9_isFirst_93 : decode cX9_isFirst 93 = .ok (.iconst 1, 1) := by decide +kernel
theorem dX9_isFirst_94 : decode cX9_isFirst 94 = .ok (.goto 4, 3) := by decide +kernel
theorem dX9_isFirst_97 : decode cX9_isFirst 97 = .ok (.iconst 0, 1) := by decide +kernel
theorem dX9_isFirst_98 : decode cX9_isFirst 98 = .ok (.istore_n 2, 1) := by decide +kernel
theorem dX9_isFirst_99 : decode cX9_isFirst 99 = .ok (.iinc 3 1, 3) := by decide +kernel
theorem dX9_isFirst_102 : decode cX9_isFirst 102 = .ok (.goto (-81), 3) := by decide +kernel
theorem dX9_isFirst_105 : decode cX9_isFirst 105 = .ok (.iload_n 2, 1) := by decide +kernel
theorem dX9_isFirst_106 : decode cX9_isFirst 106 = .ok (.ireturn, 1) := by decide +kernel
theorem dX9_finds_0 : decode cX9_finds 0 = .ok (.iload_n 2, 1) := by decide +kernel
theorem dX9_finds_1 : decode cX9_finds 1 = .ok (.istore_n 3, 1) := by decide +kernel
theorem dX9_finds_2 : decode cX9_finds 2 = .ok (.iconst 0, 1) := by decide +kernel
theorem dX9_finds_3 : decode cX9_finds 3 = .ok (.istore 4, 2) := by decide +kernel
theorem dX9_finds_5 : decode cX9_finds 5 = .ok (.aload_n 0, 1) := by decide +kernel
theorem dX9_finds_6 : decode cX9_finds 6 = .ok (.getfield 62, 3) := by decide +kernel
theorem dX9_finds_9 : decode cX9_finds 9 = .ok (.iconst 0, 1) := by decide +kernel
theorem dX9_finds_10 : decode cX9_finds 10 = .ok (.iconst (-1), 1) := by decide +kernel
theorem dX9_finds_11 : decode cX9_finds 11 = .ok (.iastore, 1) := by decide +kernel
theorem dX9_finds_12 : decode cX9_finds 12 = .ok (.iload 4, 2) := by decide +kernel
theorem dX9_finds_14 : decode cX9_finds 14 = .ok (.ifCond .lt 115, 3) := by decide +kernel
theorem dX9_finds_17 : decode cX9_finds 17 = .ok (.aload_n 0, 1) := by decide +kernel
theorem dX9_finds_18 : decode cX9_finds 18 = .ok (.getfield 62, 3) := by decide +kernel
theorem dX9_finds_21 : decode cX9_finds 21 = .ok (.iload 4, 2) := by decide +kernel
theorem dX9_finds_23 : decode cX9_finds 23 = .ok (.dup2, 1) := by decide +kernel
theorem dX9_finds_24 : decode cX9_finds 24 = .ok (.iaload, 1) := by decide +kernel
theorem dX9_finds_25 : decode cX9_finds 25 = .ok (.iconst 1, 1) := by decide +kernel
theorem dX9_finds_26 : decode cX9_finds 26 = .ok (.iadd, 1) := by decide +kernel
theorem dX9_finds_27 : decode cX9_finds 27 = .ok (.iastore, 1) := by decide +kernel
theorem dX9_finds_28 : decode cX9_finds 28 = .ok (.aload_n 0, 1) := by decide +kernel
theorem dX9_finds_29 : decode cX9_finds 29 = .ok (.getfield 62, 3) := by decide +kernel
theorem dX9_finds_32 : decode cX9_finds 32 = .ok (.iload 4, 2) := by decide +kernel
theorem dX9_finds_34 : decode cX9_finds 34 = .ok (.iaload, 1) := by decide +kernel
theorem dX9_finds_35 : decode cX9_finds 35 = .ok (.iconst 2, 1) := by decide +kernel
theorem dX9_finds_36 : decode cX9_finds 36 = .ok (.aload_n 0, 1) := by decide +kernel
theorem dX9_finds_37 : decode cX9_finds 37 = .ok (.getfield 7, 3) := by decide +kernel
theorem dX9_finds_40 : decode cX9_finds 40 = .ok (.iconst 1, 1) := by decide +kernel
theorem dX9_finds_41 : decode cX9_finds 41 = .ok (.iaload, 1) := by decide +kernel
theorem dX9_finds_42 : decode cX9_finds 42 = .ok (.imul, 1) := by decide +kernel
theorem dX9_finds_43 : decode cX9_finds 43 = .ok (.if_icmp .ne 9, 3) := by decide +kernel
theorem dX9_finds_46 : decode cX9_finds 46 = .ok (.iinc 4 (-1), 3) := by decide +kernel
theorem dX9_finds_49 : decode cX9_finds 49 = .ok (.goto (-37), 3) := by decide +kernel
theorem dX9_finds_52 : decode cX9_finds 52 = .ok (.iload 4, 2) := by decide +kernel
theorem dX9_finds_54 : decode cX9_finds 54 = .ok (.ifCond .eq 26, 3) := by decide +kernel
theorem dX9_finds_57 : decode cX9_finds 57 = .ok (.aload_n 0, 1) := by decide +kernel
theorem dX9_finds_58 : decode cX9_finds 58 = .ok (.aload_n 0, 1) := by decide +kernel
theorem dX9_finds_59 : decode cX9_finds 59 = .ok (.getfield 62, 3) := by decide +kernel
theorem dX9_finds_62 : decode cX9_finds 62 = .ok (.iload 4, 2) := by decide +kernel
theorem dX9_finds_64 : decode cX9_finds 64 = .ok (.iconst 1, 1) := by decide +kernel
theorem dX9_finds_65 : decode cX9_finds 65 = .ok (.isub, 1) := by decide +kernel
theorem dX9_finds_66 : decode cX9_finds 66 = .ok (.iaload, 1) := by decide +kernel
theorem dX9_finds_67 : decode cX9_finds 67 = .ok (.aload_n 0, 1) := by decide +kernel
theorem dX9_finds_68 : decode cX9_finds 68 = .ok (.getfield 62, 3) := by decide +kernel
theorem dX9_finds_71 : decode cX9_finds 71 = .ok (.iload 4, 2) := by decide +kernel
theorem dX9_finds_73 : decode cX9_finds 73 = .ok (.iaload, 1) := by decide +kernel
theorem dX9_finds_74 : decode cX9_finds 74 = .ok (.invokevirtual 103, 3) := by decide +kernel
theorem dX9_finds_77 : decode cX9_finds 77 = .ok (.ifCond .eq (-65), 3) := by decide +kernel
theorem dX9_finds_80 : decode cX9_finds 80 = .ok (.iload 4, 2) := by decide +kernel
theorem dX9_finds_82 : decode cX9_finds 82 = .ok (.iload_n 1, 1) := by decide +kernel
theorem dX9_finds_83 : decode cX9_finds 83 = .ok (.iconst 1, 1) := by decide +kernel
theorem dX9_finds_84 : decode cX9_finds 84 = .ok (.isub, 1) := by decide +kernel
theorem dX9_finds_85 : decode cX9_finds 85 = .ok (.if_icmp .ge 24, 3) := by decide +kernel
theorem dX9_finds_88 : decode cX9_finds 88 = .ok (.iinc 4 1, 3) := by decide +kernel
theorem dX9_finds_91 : decode cX9_finds 91 = .ok (.aload_n 0, 1) := by decide +kernel
theorem dX9_finds_92 : decode cX9_finds 92 = .ok (.getfield 62, 3) := by decide +kernel
theorem dX9_finds_95 : decode cX9_finds 95 = .ok (.iload 4, 2) := by decide +kernel
theorem dX9_finds_97 : decode cX9_finds 97 = .ok (.aload_n 0, 1) := by decide +kernel
theorem dX9_finds_98 : decode cX9_finds 98 = .ok (.getfield 62, 3) := by decide +kernel
theorem dX9_finds_101 : decode cX9_finds 101 = .ok (.iconst 0, 1) := by decide +kernel
theorem dX9_finds_102 : decode cX9_finds 102 = .ok (.iaload, 1) := by decide +kernel
theorem dX9_finds_103 : decode cX9_finds 103 = .ok (.iconst 1, 1) := by decide +kernel
theorem dX9_finds_104 : decode cX9_finds 104 = .ok (.isub, 1) := by decide +kernel
theorem dX9_finds_105 : decode cX9_finds 105 = .ok (.iastore, 1) := by decide +kernel
theorem dX9_finds_106 : decode cX9_finds 106 = .ok (.goto (-94), 3) := by decide +kernel
theorem dX9_finds_109 : decode cX9_finds 109 = .ok (.aload_n 0, 1) := by decide +kernel
theorem dX9_finds_110 : decode cX9_finds 110 = .ok (.iload_n 1, 1) := by decide +kernel
theorem dX9_finds_111 : decode cX9_finds 111 = .ok (.invokevirtual 159, 3) := by decide +kernel
theorem dX9_finds_114 : decode cX9_finds 114 = .ok (.ifCond .eq (-102), 3) := by decide +kernel
theorem dX9_finds_117 : decode cX9_finds 117 = .ok (.iload_n 3, 1) := by decide +kernel
theorem dX9_finds_118 : decode cX9_finds 118 = .ok (.ifCond .ne 5, 3) := by decide +kernel
theorem dX9_finds_121 : decode cX9_finds 121 = .ok (.iconst 1, 1) := by decide +kernel
theorem dX9_finds_122 : decode cX9_finds 122 = .ok (.ireturn, 1) := by decide +kernel
theorem dX9_finds_123 : decode cX9_finds 123 = .ok (.iinc 3 (-1), 3) := by decide +kernel
theorem dX9_finds_126 : decode cX9_finds 126 = .ok (.goto (-114), 3) := by decide +kernel
theorem dX9_finds_129 : decode cX9_finds 129 = .ok (.iconst 0, 1) := by decide +kernel
theorem dX9_finds_130 : decode cX9_finds 130 = .ok (.ireturn, 1) := by decide +kernel
theorem dX9_primeEdge_0 : decode cX9_primeEdge 0 = .ok (.iload_n 1, 1) := by decide +kernel
theorem dX9_primeEdge_1 : decode cX9_primeEdge 1 = .ok (.iconst 1, 1) := by decide +kernel
theorem dX9_primeEdge_2 : decode cX9_primeEdge 2 = .ok (.iconst 5, 1) := by decide +kernel
theorem dX9_primeEdge_3 : decode cX9_primeEdge 3 = .ok (.invokestatic 65, 3) := by decide +kernel
theorem dX9_primeEdge_6 : decode cX9_primeEdge 6 = .ok (.ifCond .eq 18, 3) := by decide +kernel
theorem dX9_primeEdge_9 : decode cX9_primeEdge 9 = .ok (.iload_n 2, 1) := by decide +kernel
theorem dX9_primeEdge_10 : decode cX9_primeEdge 10 = .ok (.ifCond .lt 14, 3) := by decide +kernel
theorem dX9_primeEdge_13 : decode cX9_primeEdge 13 = .ok (.iload_n 3, 1) := by decide +kernel
theorem dX9_primeEdge_14 : decode cX9_primeEdge 14 = .ok (.iconst 0, 1) := by decide +kernel
theorem dX9_primeEdge_15 : decode cX9_primeEdge 15 = .ok (.iload_n 1, 1) := by decide +kernel
theorem dX9_primeEdge_16 : decode cX9_primeEdge 16 = .ok (.iconst 1, 1) := by decide +kernel
theorem dX9_primeEdge_17 : decode cX9_primeEdge 17 = .ok (.isub, 1) := by decide +kernel
theorem dX9_primeEdge_18 : decode cX9_primeEdge 18 = .ok (.invokestatic 65, 3) := by decide +kernel
theorem dX9_primeEdge_21 : decode cX9_primeEdge 21 = .ok (.ifCond .ne 5, 3) := by decide +kernel
theorem dX9_primeEdge_24 : decode cX9_primeEdge 24 = .ok (.iconst (-1), 1) := by decide +kernel
theorem dX9_primeEdge_25 : decode cX9_primeEdge 25 = .ok (.ireturn, 1) := by decide +kernel
theorem dX9_primeEdge_26 : decode cX9_primeEdge 26 = .ok (.aload_n 0, 1) := by decide +kernel
theorem dX9_primeEdge_27 : decode cX9_primeEdge 27 = .ok (.iload_n 1, 1) := by decide +kernel
theorem dX9_primeEdge_28 : decode cX9_primeEdge 28 = .ok (.iload_n 2, 1) := by decide +kernel
theorem dX9_primeEdge_29 : decode cX9_primeEdge 29 = .ok (.invokevirtual 162, 3) := by decide +kernel
theorem dX9_primeEdge_32 : decode cX9_primeEdge 32 = .ok (.ifCond .eq 12, 3) := by decide +kernel
theorem dX9_primeEdge_35 : decode cX9_primeEdge 35 = .ok (.aload_n 0, 1) := by decide +kernel
theorem dX9_primeEdge_36 : decode cX9_primeEdge 36 = .ok (.getfield 62, 3) := by decide +kernel
theorem dX9_primeEdge_39 : decode cX9_primeEdge 39 = .ok (.iload_n 3, 1) := by decide +kernel
theorem dX9_primeEdge_40 : decode cX9_primeEdge 40 = .ok (.iaload, 1) := by decide +kernel
theorem dX9_primeEdge_41 : decode cX9_primeEdge 41 = .ok (.goto 5, 3) := by decide +kernel
theorem dX9_primeEdge_44 : decode cX9_primeEdge 44 = .ok (.bipush (-9), 2) := by decide +kernel
theorem dX9_primeEdge_46 : decode cX9_primeEdge 46 = .ok (.ireturn, 1) := by decide +kernel
theorem dX9_primeSign_0 : decode cX9_primeSign 0 = .ok (.iload_n 1, 1) := by decide +kernel
theorem dX9_primeSign_1 : decode cX9_primeSign 1 = .ok (.iconst 1, 1) := by decide +kernel
theorem dX9_primeSign_2 : decode cX9_primeSign 2 = .ok (.iconst 5, 1) := by decide +kernel
theorem dX9_primeSign_3 : decode cX9_primeSign 3 = .ok (.invokestatic 65, 3) := by decide +kernel
theorem dX9_primeSign_6 : decode cX9_primeSign 6 = .ok (.ifCond .eq 16, 3) := by decide +kernel
theorem dX9_primeSign_9 : decode cX9_primeSign 9 = .ok (.iload_n 2, 1) := by decide +kernel
theorem dX9_primeSign_10 : decode cX9_primeSign 10 = .ok (.ifCond .lt 12, 3) := by decide +kernel
theorem dX9_primeSign_13 : decode cX9_primeSign 13 = .ok (.aload_n 0, 1) := by decide +kernel
theorem dX9_primeSign_14 : decode cX9_primeSign 14 = .ok (.iload_n 1, 1) := by decide +kernel
theorem dX9_primeSign_15 : decode cX9_primeSign 15 = .ok (.iload_n 2, 1) := by decide +kernel
theorem dX9_primeSign_16 : decode cX9_primeSign 16 = .ok (.invokevirtual 162, 3) := by decide +kernel
theorem dX9_primeSign_19 : decode cX9_primeSign 19 = .ok (.ifCond .ne 5, 3) := by decide +kernel
theorem dX9_primeSign_22 : decode cX9_primeSign 22 = .ok (.iconst 0, 1) := by decide +kernel
theorem dX9_primeSign_23 : decode cX9_primeSign 23 = .ok (.ireturn, 1) := by decide +kernel
theorem dX9_primeSign_24 : decode cX9_primeSign 24 = .ok (.iconst 1, 1) := by decide +kernel
theorem dX9_primeSign_25 : decode cX9_primeSign 25 = .ok (.istore_n 3, 1) := by decide +kernel
theorem dX9_primeSign_26 : decode cX9_primeSign 26 = .ok (.iconst 0, 1) := by decide +kernel
theorem dX9_primeSign_27 : decode cX9_primeSign 27 = .ok (.istore 4, 2) := by decide +kernel
theorem dX9_primeSign_29 : decode cX9_primeSign 29 = .ok (.iload 4, 2) := by decide +kernel
theorem dX9_primeSign_31 : decode cX9_primeSign 31 = .ok (.iload_n 1, 1) := by decide +kernel
theorem dX9_primeSign_32 : decode cX9_primeSign 32 = .ok (.if_icmp .ge 23, 3) := by decide +kernel
theorem dX9_primeSign_35 : decode cX9_primeSign 35 = .ok (.iload_n 3, 1) := by decide +kernel
theorem dX9_primeSign_36 : decode cX9_primeSign 36 = .ok (.aload_n 0, 1) := by decide +kernel
theorem dX9_primeSign_37 : decode cX9_primeSign 37 = .ok (.aload_n 0, 1) := by decide +kernel
theorem dX9_primeSign_38 : decode cX9_primeSign 38 = .ok (.getfield 62, 3) := by decide +kernel
theorem dX9_primeSign_41 : decode cX9_primeSign 41 = .ok (.iload 4, 2) := by decide +kernel
theorem dX9_primeSign_43 : decode cX9_primeSign 43 = .ok (.iaload, 1) := by decide +kernel
theorem dX9_primeSign_44 : decode cX9_primeSign 44 = .ok (.invokevirtual 114, 3) := by decide +kernel
theorem dX9_primeSign_47 : decode cX9_primeSign 47 = .ok (.imul, 1) := by decide +kernel
theorem dX9_primeSign_48 : decode cX9_primeSign 48 = .ok (.istore_n 3, 1) := by decide +kernel
theorem dX9_primeSign_49 : decode cX9_primeSign 49 = .ok (.iinc 4 1, 3) := by decide +kernel
theorem dX9_primeSign_52 : decode cX9_primeSign 52 = .ok (.goto (-23), 3) := by decide +kernel
theorem dX9_primeSign_55 : decode cX9_primeSign 55 = .ok (.iload_n 3, 1) := by decide +kernel
theorem dX9_primeSign_56 : decode cX9_primeSign 56 = .ok (.ireturn, 1) := by decide +kernel
theorem dX9_edgeCoefficient_0 : decode cX9_edgeCoefficient 0 = .ok (.iload_n 1, 1) := by decide +kernel
theorem dX9_edgeCoefficient_1 : decode cX9_edgeCoefficient 1 = .ok (.iconst 0, 1) := by decide +kernel
theorem dX9_edgeCoefficient_2 : decode cX9_edgeCoefficient 2 = .ok (.bipush 18, 2) := by decide +kernel
theorem dX9_edgeCoefficient_4 : decode cX9_edgeCoefficient 4 = .ok (.invokestatic 65, 3) := by decide +kernel
theorem dX9_edgeCoefficient_7 : decode cX9_edgeCoefficient 7 = .ok (.ifCond .ne 7, 3) := by decide +kernel
theorem dX9_edgeCoefficient_10 : decode cX9_edgeCoefficient 10 = .ok (.ldc2_w 152, 3) := by decide +kernel
theorem dX9_edgeCoefficient_13 : decode cX9_edgeCoefficient 13 = .ok (.lreturn, 1) := by decide +kernel
theorem dX9_edgeCoefficient_14 : decode cX9_edgeCoefficient 14 = .ok (.aload_n 0, 1) := by decide +kernel
theorem dX9_edgeCoefficient_15 : decode cX9_edgeCoefficient 15 = .ok (.invokevirtual 165, 3) := by decide +kernel
theorem dX9_edgeCoefficient_18 : decode cX9_edgeCoefficient 18 = .ok (.aload_n 0, 1) := by decide +kernel
theorem dX9_edgeCoefficient_19 : decode cX9_edgeCoefficient 19 = .ok (.getfield 35, 3) := by decide +kernel
theorem dX9_edgeCoefficient_22 : decode cX9_edgeCoefficient 22 = .ok (.iload_n 1, 1) := by decide +kernel
theorem dX9_edgeCoefficient_23 : decode cX9_edgeCoefficient 23 = .ok (.laload, 1) := by decide +kernel
theorem dX9_edgeCoefficient_24 : decode cX9_edgeCoefficient 24 = .ok (.lreturn, 1) := by decide +kernel
theorem dX9_signedCoefficient_0 : decode cX9_signedCoefficient 0 = .ok (.iload_n 1, 1) := by decide +kernel
theorem dX9_signedCoefficient_1 : decode cX9_signedCoefficient 1 = .ok (.iconst 0, 1) := by decide +kernel
theorem dX9_signedCoefficient_2 : decode cX9_signedCoefficient 2 = .ok (.bipush 18, 2) := by decide +kernel
theorem dX9_signedCoefficient_4 : decode cX9_signedCoefficient 4 = .ok (.invokestatic 65, 3) := by decide +kernel
theorem dX9_signedCoefficient_7 : decode cX9_signedCoefficient 7 = .ok (.ifCond .ne 7, 3) := by decide +kernel
theorem dX9_signedCoefficient_10 : decode cX9_signedCoefficient 10 = .ok (.ldc2_w 152, 3) := by decide +kernel
theorem dX9_signedCoefficient_13 : decode cX9_signedCoefficient 13 = .ok (.lreturn, 1) := by decide +kernel
theorem dX9_signedCoefficient_14 : decode cX9_signedCoefficient 14 = .ok (.aload_n 0, 1) := by decide +kernel
theorem dX9_signedCoefficient_15 : decode cX9_signedCoefficient 15 = .ok (.iconst 1, 1) := by decide +kernel
theorem dX9_signedCoefficient_16 : decode cX9_signedCoefficient 16 = .ok (.invokevirtual 128, 3) := by decide +kernel
theorem dX9_signedCoefficient_19 : decode cX9_signedCoefficient 19 = .ok (.aload_n 0, 1) := by decide +kernel
theorem dX9_signedCoefficient_20 : decode cX9_signedCoefficient 20 = .ok (.invokevirtual 132, 3) := by decide +kernel
theorem dX9_signedCoefficient_23 : decode cX9_signedCoefficient 23 = .ok (.aload_n 0, 1) := by decide +kernel
theorem dX9_signedCoefficient_24 : decode cX9_signedCoefficient 24 = .ok (.getfield 35, 3) := by decide +kernel
theorem dX9_signedCoefficient_27 : decode cX9_signedCoefficient 27 = .ok (.iload_n 1, 1) := by decide +kernel
theorem dX9_signedCoefficient_28 : decode cX9_signedCoefficient 28 = .ok (.laload, 1) := by decide +kernel
theorem dX9_signedCoefficient_29 : decode cX9_signedCoefficient 29 = .ok (.lreturn, 1) := by decide +kernel
theorem dX9_vertexCoefficient_0 : decode cX9_vertexCoefficient 0 = .ok (.iload_n 1, 1) := by decide +kernel
theorem dX9_vertexCoefficient_1 : decode cX9_vertexCoefficient 1 = .ok (.iconst 0, 1) := by decide +kernel
theorem dX9_vertexCoefficient_2 : decode cX9_vertexCoefficient 2 = .ok (.bipush 12, 2) := by decide +kernel
theorem dX9_vertexCoefficient_4 : decode cX9_vertexCoefficient 4 = .ok (.invokestatic 65, 3) := by decide +kernel
theorem dX9_vertexCoefficient_7 : decode cX9_vertexCoefficient 7 = .ok (.ifCond .ne 7, 3) := by decide +kernel
theorem dX9_vertexCoefficient_10 : decode cX9_vertexCoefficient 10 = .ok (.ldc2_w 152, 3) := by decide +kernel
theorem dX9_vertexCoefficient_13 : decode cX9_vertexCoefficient 13 = .ok (.lreturn, 1) := by decide +kernel
theorem dX9_vertexCoefficient_14 : decode cX9_vertexCoefficient 14 = .ok (.aload_n 0, 1) := by decide +kernel
theorem dX9_vertexCoefficient_15 : decode cX9_vertexCoefficient 15 = .ok (.invokevirtual 135, 3) := by decide +kernel
theorem dX9_vertexCoefficient_18 : decode cX9_vertexCoefficient 18 = .ok (.aload_n 0, 1) := by decide +kernel
theorem dX9_vertexCoefficient_19 : decode cX9_vertexCoefficient 19 = .ok (.invokevirtual 132, 3) := by decide +kernel
theorem dX9_vertexCoefficient_22 : decode cX9_vertexCoefficient 22 = .ok (.aload_n 0, 1) := by decide +kernel
theorem dX9_vertexCoefficient_23 : decode cX9_vertexCoefficient 23 = .ok (.getfield 35, 3) := by decide +kernel
theorem dX9_vertexCoefficient_26 : decode cX9_vertexCoefficient 26 = .ok (.iload_n 1, 1) := by decide +kernel
theorem dX9_vertexCoefficient_27 : decode cX9_vertexCoefficient 27 = .ok (.laload, 1) := by decide +kernel
theorem dX9_vertexCoefficient_28 : decode cX9_vertexCoefficient 28 = .ok (.lreturn, 1) := by decide +kernel
theorem dX9_bassCoefficient_0 : decode cX9_bassCoefficient 0 = .ok (.iload_n 1, 1) := by decide +kernel
theorem dX9_bassCoefficient_1 : decode cX9_bassCoefficient 1 = .ok (.iconst 0, 1) := by decide +kernel
theorem dX9_bassCoefficient_2 : decode cX9_bassCoefficient 2 = .ok (.bipush 18, 2) := by decide +kernel
theorem dX9_bassCoefficient_4 : decode cX9_bassCoefficient 4 = .ok (.invokestatic 65, 3) := by decide +kernel
theorem dX9_bassCoefficient_7 : decode cX9_bassCoefficient 7 = .ok (.ifCond .ne 7, 3) := by decide +kernel
theorem dX9_bassCoefficient_10 : decode cX9_bassCoefficient 10 = .ok (.ldc2_w 152, 3) := by decide +kernel
theorem dX9_bassCoefficient_13 : decode cX9_bassCoefficient 13 = .ok (.lreturn, 1) := by decide +kernel
theorem dX9_bassCoefficient_14 : decode cX9_bassCoefficient 14 = .ok (.aload_n 0, 1) := by decide +kernel
theorem dX9_bassCoefficient_15 : decode cX9_bassCoefficient 15 = .ok (.invokevirtual 168, 3) := by decide +kernel
theorem dX9_bassCoefficient_18 : decode cX9_bassCoefficient 18 = .ok (.aload_n 0, 1) := by decide +kernel
theorem dX9_bassCoefficient_19 : decode cX9_bassCoefficient 19 = .ok (.getfield 35, 3) := by decide +kernel
theorem dX9_bassCoefficient_22 : decode cX9_bassCoefficient 22 = .ok (.iload_n 1, 1) := by decide +kernel
theorem dX9_bassCoefficient_23 : decode cX9_bassCoefficient 23 = .ok (.laload, 1) := by decide +kernel
theorem dX9_bassCoefficient_24 : decode cX9_bassCoefficient 24 = .ok (.lreturn, 1) := by decide +kernel
theorem dX9_zetaCoefficient_0 : decode cX9_zetaCoefficient 0 = .ok (.iload_n 1, 1) := by decide +kernel
theorem dX9_zetaCoefficient_1 : decode cX9_zetaCoefficient 1 = .ok (.iconst 0, 1) := by decide +kernel
theorem dX9_zetaCoefficient_2 : decode cX9_zetaCoefficient 2 = .ok (.bipush 12, 2) := by decide +kernel
theorem dX9_zetaCoefficient_4 : decode cX9_zetaCoefficient 4 = .ok (.invokestatic 65, 3) := by decide +kernel
theorem dX9_zetaCoefficient_7 : decode cX9_zetaCoefficient 7 = .ok (.ifCond .ne 7, 3) := by decide +kernel
theorem dX9_zetaCoefficient_10 : decode cX9_zetaCoefficient 10 = .ok (.ldc2_w 152, 3) := by decide +kernel
theorem dX9_zetaCoefficient_13 : decode cX9_zetaCoefficient 13 = .ok (.lreturn, 1) := by decide +kernel
theorem dX9_zetaCoefficient_14 : decode cX9_zetaCoefficient 14 = .ok (.aload_n 0, 1) := by decide +kernel
theorem dX9_zetaCoefficient_15 : decode cX9_zetaCoefficient 15 = .ok (.invokevirtual 165, 3) := by decide +kernel
theorem dX9_zetaCoefficient_18 : decode cX9_zetaCoefficient 18 = .ok (.iconst 0, 1) := by decide +kernel
theorem dX9_zetaCoefficient_19 : decode cX9_zetaCoefficient 19 = .ok (.istore_n 2, 1) := by decide +kernel
theorem dX9_zetaCoefficient_20 : decode cX9_zetaCoefficient 20 = .ok (.iload_n 2, 1) := by decide +kernel
theorem dX9_zetaCoefficient_21 : decode cX9_zetaCoefficient 21 = .ok (.iload_n 1, 1) := by decide +kernel
theorem dX9_zetaCoefficient_22 : decode cX9_zetaCoefficient 22 = .ok (.if_icmp .gt 61, 3) := by decide +kernel
theorem dX9_zetaCoefficient_25 : decode cX9_zetaCoefficient 25 = .ok (.aload_n 0, 1) := by decide +kernel
theorem dX9_zetaCoefficient_26 : decode cX9_zetaCoefficient 26 = .ok (.getfield 38, 3) := by decide +kernel
theorem dX9_zetaCoefficient_29 : decode cX9_zetaCoefficient 29 = .ok (.iload_n 2, 1) := by decide +kernel
theorem dX9_zetaCoefficient_30 : decode cX9_zetaCoefficient 30 = .ok (.iload_n 2, 1) := by decide +kernel
theorem dX9_zetaCoefficient_31 : decode cX9_zetaCoefficient 31 = .ok (.ifCond .ne 7, 3) := by decide +kernel
theorem dX9_zetaCoefficient_34 : decode cX9_zetaCoefficient 34 = .ok (.lconst 1, 1) := by decide +kernel
theorem dX9_zetaCoefficient_35 : decode cX9_zetaCoefficient 35 = .ok (.goto 4, 3) := by decide +kernel
theorem dX9_zetaCoefficient_38 : decode cX9_zetaCoefficient 38 = .ok (.lconst 0, 1) := by decide +kernel
theorem dX9_zetaCoefficient_39 : decode cX9_zetaCoefficient 39 = .ok (.lastore, 1) := by decide +kernel
theorem dX9_zetaCoefficient_40 : decode cX9_zetaCoefficient 40 = .ok (.iconst 1, 1) := by decide +kernel
theorem dX9_zetaCoefficient_41 : decode cX9_zetaCoefficient 41 = .ok (.istore_n 3, 1) := by decide +kernel
theorem dX9_zetaCoefficient_42 : decode cX9_zetaCoefficient 42 = .ok (.iload_n 3, 1) := by decide +kernel
theorem dX9_zetaCoefficient_43 : decode cX9_zetaCoefficient 43 = .ok (.iload_n 2, 1) := by decide +kernel
theorem dX9_zetaCoefficient_44 : decode cX9_zetaCoefficient 44 = .ok (.if_icmp .gt 33, 3) := by decide +kernel
theorem dX9_zetaCoefficient_47 : decode cX9_zetaCoefficient 47 = .ok (.aload_n 0, 1) := by decide +kernel
theorem dX9_zetaCoefficient_48 : decode cX9_zetaCoefficient 48 = .ok (.getfield 38, 3) := by decide +kernel
theorem dX9_zetaCoefficient_51 : decode cX9_zetaCoefficient 51 = .ok (.iload_n 2, 1) := by decide +kernel
theorem dX9_zetaCoefficient_52 : decode cX9_zetaCoefficient 52 = .ok (.dup2, 1) := by decide +kernel
theorem dX9_zetaCoefficient_53 : decode cX9_zetaCoefficient 53 = .ok (.laload, 1) := by decide +kernel
theorem dX9_zetaCoefficient_54 : decode cX9_zetaCoefficient 54 = .ok (.aload_n 0, 1) := by decide +kernel
theorem dX9_zetaCoefficient_55 : decode cX9_zetaCoefficient 55 = .ok (.getfield 35, 3) := by decide +kernel
theorem dX9_zetaCoefficient_58 : decode cX9_zetaCoefficient 58 = .ok (.iload_n 3, 1) := by decide +kernel
theorem dX9_zetaCoefficient_59 : decode cX9_zetaCoefficient 59 = .ok (.laload, 1) := by decide +kernel
theorem dX9_zetaCoefficient_60 : decode cX9_zetaCoefficient 60 = .ok (.aload_n 0, 1) := by decide +kernel
theorem dX9_zetaCoefficient_61 : decode cX9_zetaCoefficient 61 = .ok (.getfield 38, 3) := by decide +kernel
theorem dX9_zetaCoefficient_64 : decode cX9_zetaCoefficient 64 = .ok (.iload_n 2, 1) := by decide +kernel
theorem dX9_zetaCoefficient_65 : decode cX9_zetaCoefficient 65 = .ok (.iload_n 3, 1) := by decide +kernel
theorem dX9_zetaCoefficient_66 : decode cX9_zetaCoefficient 66 = .ok (.isub, 1) := by decide +kernel
theorem dX9_zetaCoefficient_67 : decode cX9_zetaCoefficient 67 = .ok (.laload, 1) := by decide +kernel
theorem dX9_zetaCoefficient_68 : decode cX9_zetaCoefficient 68 = .ok (.lmul, 1) := by decide +kernel
theorem dX9_zetaCoefficient_69 : decode cX9_zetaCoefficient 69 = .ok (.lsub, 1) := by decide +kernel
theorem dX9_zetaCoefficient_70 : decode cX9_zetaCoefficient 70 = .ok (.lastore, 1) := by decide +kernel
theorem dX9_zetaCoefficient_71 : decode cX9_zetaCoefficient 71 = .ok (.iinc 3 1, 3) := by decide +kernel
theorem dX9_zetaCoefficient_74 : decode cX9_zetaCoefficient 74 = .ok (.goto (-32), 3) := by decide +kernel
theorem dX9_zetaCoefficient_77 : decode cX9_zetaCoefficient 77 = .ok (.iinc 2 1, 3) := by decide +kernel
theorem dX9_zetaCoefficient_80 : decode cX9_zetaCoefficient 80 = .ok (.goto (-60), 3) := by decide +kernel
theorem dX9_zetaCoefficient_83 : decode cX9_zetaCoefficient 83 = .ok (.aload_n 0, 1) := by decide +kernel
theorem dX9_zetaCoefficient_84 : decode cX9_zetaCoefficient 84 = .ok (.getfield 38, 3) := by decide +kernel
theorem dX9_zetaCoefficient_87 : decode cX9_zetaCoefficient 87 = .ok (.iload_n 1, 1) := by decide +kernel
theorem dX9_zetaCoefficient_88 : decode cX9_zetaCoefficient 88 = .ok (.laload, 1) := by decide +kernel
theorem dX9_zetaCoefficient_89 : decode cX9_zetaCoefficient 89 = .ok (.lreturn, 1) := by decide +kernel
theorem dX9_edgeValue_0 : decode cX9_edgeValue 0 = .ok (.iload_n 1, 1) := by decide +kernel
theorem dX9_edgeValue_1 : decode cX9_edgeValue 1 = .ok (.bipush (-2), 2) := by decide +kernel
theorem dX9_edgeValue_3 : decode cX9_edgeValue 3 = .ok (.iconst 2, 1) := by decide +kernel
theorem dX9_edgeValue_4 : decode cX9_edgeValue 4 = .ok (.invokestatic 65, 3) := by decide +kernel
theorem dX9_edgeValue_7 : decode cX9_edgeValue 7 = .ok (.ifCond .ne 7, 3) := by decide +kernel
theorem dX9_edgeValue_10 : decode cX9_edgeValue 10 = .ok (.ldc2_w 152, 3) := by decide +kernel
theorem dX9_edgeValue_13 : decode cX9_edgeValue 13 = .ok (.lreturn, 1) := by decide +kernel
theorem dX9_edgeValue_14 : decode cX9_edgeValue 14 = .ok (.aload_n 0, 1) := by decide +kernel
theorem dX9_edgeValue_15 : decode cX9_edgeValue 15 = .ok (.invokevirtual 165, 3) := by decide +kernel
theorem dX9_edgeValue_18 : decode cX9_edgeValue 18 = .ok (.lconst 0, 1) := by decide +kernel
theorem dX9_edgeValue_19 : decode cX9_edgeValue 19 = .ok (.lstore_n 2, 1) := by decide +kernel
theorem dX9_edgeValue_20 : decode cX9_edgeValue 20 = .ok (.bipush 18, 2) := by decide +kernel
theorem dX9_edgeValue_22 : decode cX9_edgeValue 22 = .ok (.istore 4, 2) := by decide +kernel
theorem dX9_edgeValue_24 : decode cX9_edgeValue 24 = .ok (.iload 4, 2) := by decide +kernel
theorem dX9_edgeValue_26 : decode cX9_edgeValue 26 = .ok (.ifCond .lt 22, 3) := by decide +kernel
theorem dX9_edgeValue_29 : decode cX9_edgeValue 29 = .ok (.lload_n 2, 1) := by decide +kernel
theorem dX9_edgeValue_30 : decode cX9_edgeValue 30 = .ok (.iload_n 1, 1) := by decide +kernel
theorem dX9_edgeValue_31 : decode cX9_edgeValue 31 = .ok (.i2l, 1) := by decide +kernel
theorem dX9_edgeValue_32 : decode cX9_edgeValue 32 = .ok (.lmul, 1) := by decide +kernel
theorem dX9_edgeValue_33 : decode cX9_edgeValue 33 = .ok (.aload_n 0, 1) := by decide +kernel
theorem dX9_edgeValue_34 : decode cX9_edgeValue 34 = .ok (.getfield 35, 3) := by decide +kernel
theorem dX9_edgeValue_37 : decode cX9_edgeValue 37 = .ok (.iload 4, 2) := by decide +kernel
theorem dX9_edgeValue_39 : decode cX9_edgeValue 39 = .ok (.laload, 1) := by decide +kernel
theorem dX9_edgeValue_40 : decode cX9_edgeValue 40 = .ok (.ladd, 1) := by decide +kernel
theorem dX9_edgeValue_41 : decode cX9_edgeValue 41 = .ok (.lstore_n 2, 1) := by decide +kernel
theorem dX9_edgeValue_42 : decode cX9_edgeValue 42 = .ok (.iinc 4 (-1), 3) := by decide +kernel
theorem dX9_edgeValue_45 : decode cX9_edgeValue 45 = .ok (.goto (-21), 3) := by decide +kernel
theorem dX9_edgeValue_48 : decode cX9_edgeValue 48 = .ok (.lload_n 2, 1) := by decide +kernel
theorem dX9_edgeValue_49 : decode cX9_edgeValue 49 = .ok (.lreturn, 1) := by decide +kernel
theorem dX9_taylorAtOne_0 : decode cX9_taylorAtOne 0 = .ok (.iload_n 1, 1) := by decide +kernel
theorem dX9_taylorAtOne_1 : decode cX9_taylorAtOne 1 = .ok (.iconst 0, 1) := by decide +kernel
theorem dX9_taylorAtOne_2 : decode cX9_taylorAtOne 2 = .ok (.bipush 18, 2) := by decide +kernel
theorem dX9_taylorAtOne_4 : decode cX9_taylorAtOne 4 = .ok (.invokestatic 65, 3) := by decide +kernel
theorem dX9_taylorAtOne_7 : decode cX9_taylorAtOne 7 = .ok (.ifCond .ne 7, 3) := by decide +kernel
theorem dX9_taylorAtOne_10 : decode cX9_taylorAtOne 10 = .ok (.ldc2_w 152, 3) := by decide +kernel
theorem dX9_taylorAtOne_13 : decode cX9_taylorAtOne 13 = .ok (.lreturn, 1) := by decide +kernel
theorem dX9_taylorAtOne_14 : decode cX9_taylorAtOne 14 = .ok (.aload_n 0, 1) := by decide +kernel
theorem dX9_taylorAtOne_15 : decode cX9_taylorAtOne 15 = .ok (.invokevirtual 165, 3) := by decide +kernel
theorem dX9_taylorAtOne_18 : decode cX9_taylorAtOne 18 = .ok (.iconst 0, 1) := by decide +kernel
theorem dX9_taylorAtOne_19 : decode cX9_taylorAtOne 19 = .ok (.istore_n 2, 1) := by decide +kernel
theorem dX9_taylorAtOne_20 : decode cX9_taylorAtOne 20 = .ok (.iload_n 2, 1) := by decide +kernel
theorem dX9_taylorAtOne_21 : decode cX9_taylorAtOne 21 = .ok (.iload_n 1, 1) := by decide +kernel
theorem dX9_taylorAtOne_22 : decode cX9_taylorAtOne 22 = .ok (.if_icmp .gt 40, 3) := by decide +kernel
theorem dX9_taylorAtOne_25 : decode cX9_taylorAtOne 25 = .ok (.bipush 17, 2) := by decide +kernel
theorem dX9_taylorAtOne_27 : decode cX9_taylorAtOne 27 = .ok (.istore_n 3, 1) := by decide +kernel
theorem dX9_taylorAtOne_28 : decode cX9_taylorAtOne 28 = .ok (.iload_n 3, 1) := by decide +kernel
theorem dX9_taylorAtOne_29 : decode cX9_taylorAtOne 29 = .ok (.iload_n 2, 1) := by decide +kernel
theorem dX9_taylorAtOne_30 : decode cX9_taylorAtOne 30 = .ok (.if_icmp .lt 26, 3) := by decide +kernel
theorem dX9_taylorAtOne_33 : decode cX9_taylorAtOne 33 = .ok (.aload_n 0, 1) := by decide +kernel
theorem dX9_taylorAtOne_34 : decode cX9_taylorAtOne 34 = .ok (.getfield 35, 3) := by decide +kernel
theorem dX9_taylorAtOne_37 : decode cX9_taylorAtOne 37 = .ok (.iload_n 3, 1) := by decide +kernel
theorem dX9_taylorAtOne_38 : decode cX9_taylorAtOne 38 = .ok (.dup2, 1) := by decide +kernel
theorem dX9_taylorAtOne_39 : decode cX9_taylorAtOne 39 = .ok (.laload, 1) := by decide +kernel
theorem dX9_taylorAtOne_40 : decode cX9_taylorAtOne 40 = .ok (.aload_n 0, 1) := by decide +kernel
theorem dX9_taylorAtOne_41 : decode cX9_taylorAtOne 41 = .ok (.getfield 35, 3) := by decide +kernel
theorem dX9_taylorAtOne_44 : decode cX9_taylorAtOne 44 = .ok (.iload_n 3, 1) := by decide +kernel
theorem dX9_taylorAtOne_45 : decode cX9_taylorAtOne 45 = .ok (.iconst 1, 1) := by decide +kernel
theorem dX9_taylorAtOne_46 : decode cX9_taylorAtOne 46 = .ok (.iadd, 1) := by decide +kernel
theorem dX9_taylorAtOne_47 : decode cX9_taylorAtOne 47 = .ok (.laload, 1) := by decide +kernel
theorem dX9_taylorAtOne_48 : decode cX9_taylorAtOne 48 = .ok (.ladd, 1) := by decide +kernel
theorem dX9_taylorAtOne_49 : decode cX9_taylorAtOne 49 = .ok (.lastore, 1) := by decide +kernel
theorem dX9_taylorAtOne_50 : decode cX9_taylorAtOne 50 = .ok (.iinc 3 (-1), 3) := by decide +kernel
theorem dX9_taylorAtOne_53 : decode cX9_taylorAtOne 53 = .ok (.goto (-25), 3) := by decide +kernel
theorem dX9_taylorAtOne_56 : decode cX9_taylorAtOne 56 = .ok (.iinc 2 1, 3) := by decide +kernel
theorem dX9_taylorAtOne_59 : decode cX9_taylorAtOne 59 = .ok (.goto (-39), 3) := by decide +kernel
theorem dX9_taylorAtOne_62 : decode cX9_taylorAtOne 62 = .ok (.aload_n 0, 1) := by decide +kernel
theorem dX9_taylorAtOne_63 : decode cX9_taylorAtOne 63 = .ok (.getfield 35, 3) := by decide +kernel
theorem dX9_taylorAtOne_66 : decode cX9_taylorAtOne 66 = .ok (.iload_n 1, 1) := by decide +kernel
theorem dX9_taylorAtOne_67 : decode cX9_taylorAtOne 67 = .ok (.laload, 1) := by decide +kernel
theorem dX9_taylorAtOne_68 : decode cX9_taylorAtOne 68 = .ok (.lreturn, 1) := by decide +kernel
theorem dX9_edgeDegree_0 : decode cX9_edgeDegree 0 = .ok (.aload_n 0, 1) := by decide +kernel
theorem dX9_edgeDegree_1 : decode cX9_edgeDegree 1 = .ok (.invokevirtual 165, 3) := by decide +kernel
theorem dX9_edgeDegree_4 : decode cX9_edgeDegree 4 = .ok (.bipush 18, 2) := by decide +kernel
theorem dX9_edgeDegree_6 : decode cX9_edgeDegree 6 = .ok (.istore_n 1, 1) := by decide +kernel
theorem dX9_edgeDegree_7 : decode cX9_edgeDegree 7 = .ok (.aload_n 0, 1) := by decide +kernel
theorem dX9_edgeDegree_8 : decode cX9_edgeDegree 8 = .ok (.getfield 35, 3) := by decide +kernel
theorem dX9_edgeDegree_11 : decode cX9_edgeDegree 11 = .ok (.iload_n 1, 1) := by decide +kernel
theorem dX9_edgeDegree_12 : decode cX9_edgeDegree 12 = .ok (.laload, 1) := by decide +kernel
theorem dX9_edgeDegree_13 : decode cX9_edgeDegree 13 = .ok (.lconst 0, 1) := by decide +kernel
theorem dX9_edgeDegree_14 : decode cX9_edgeDegree 14 = .ok (.lcmp, 1) := by decide +kernel
theorem dX9_edgeDegree_15 : decode cX9_edgeDegree 15 = .ok (.ifCond .ne 9, 3) := by decide +kernel
theorem dX9_edgeDegree_18 : decode cX9_edgeDegree 18 = .ok (.iinc 1 (-1), 3) := by decide +kernel
theorem dX9_edgeDegree_21 : decode cX9_edgeDegree 21 = .ok (.goto (-14), 3) := by decide +kernel
theorem dX9_edgeDegree_24 : decode cX9_edgeDegree 24 = .ok (.iload_n 1, 1) := by decide +kernel
theorem dX9_edgeDegree_25 : decode cX9_edgeDegree 25 = .ok (.ireturn, 1) := by decide +kernel
theorem dX9_spanningTrees_0 : decode cX9_spanningTrees 0 = .ok (.aload_n 0, 1) := by decide +kernel
theorem dX9_spanningTrees_1 : decode cX9_spanningTrees 1 = .ok (.invokevirtual 171, 3) := by decide +kernel
theorem dX9_spanningTrees_4 : decode cX9_spanningTrees 4 = .ok (.aload_n 0, 1) := by decide +kernel
theorem dX9_spanningTrees_5 : decode cX9_spanningTrees 5 = .ok (.invokevirtual 132, 3) := by decide +kernel
theorem dX9_spanningTrees_8 : decode cX9_spanningTrees 8 = .ok (.aload_n 0, 1) := by decide +kernel
theorem dX9_spanningTrees_9 : decode cX9_spanningTrees 9 = .ok (.getfield 35, 3) := by decide +kernel
theorem dX9_spanningTrees_12 : decode cX9_spanningTrees 12 = .ok (.aload_n 0, 1) := by decide +kernel
theorem dX9_spanningTrees_13 : decode cX9_spanningTrees 13 = .ok (.getfield 117, 3) := by decide +kernel
theorem dX9_spanningTrees_16 : decode cX9_spanningTrees 16 = .ok (.laload, 1) := by decide +kernel
theorem dX9_spanningTrees_17 : decode cX9_spanningTrees 17 = .ok (.lstore_n 1, 1) := by decide +kernel
theorem dX9_spanningTrees_18 : decode cX9_spanningTrees 18 = .ok (.aload_n 0, 1) := by decide +kernel
theorem dX9_spanningTrees_19 : decode cX9_spanningTrees 19 = .ok (.getfield 117, 3) := by decide +kernel
theorem dX9_spanningTrees_22 : decode cX9_spanningTrees 22 = .ok (.iconst 2, 1) := by decide +kernel
theorem dX9_spanningTrees_23 : decode cX9_spanningTrees 23 = .ok (.irem, 1) := by decide +kernel
theorem dX9_spanningTrees_24 : decode cX9_spanningTrees 24 = .ok (.ifCond .ne 7, 3) := by decide +kernel
theorem dX9_spanningTrees_27 : decode cX9_spanningTrees 27 = .ok (.lload_n 1, 1) := by decide +kernel
theorem dX9_spanningTrees_28 : decode cX9_spanningTrees 28 = .ok (.goto 5, 3) := by decide +kernel
theorem dX9_spanningTrees_31 : decode cX9_spanningTrees 31 = .ok (.lload_n 1, 1) := by decide +kernel
theorem dX9_spanningTrees_32 : decode cX9_spanningTrees 32 = .ok (.lneg, 1) := by decide +kernel
theorem dX9_spanningTrees_33 : decode cX9_spanningTrees 33 = .ok (.l2i, 1) := by decide +kernel
theorem dX9_spanningTrees_34 : decode cX9_spanningTrees 34 = .ok (.ireturn, 1) := by decide +kernel
end
section
def tbG : List Cond := lw_tbl.filter goodWord
theorem tbG_in {w : Cond} (h : w ∈ lw_tbl) (hg : goodWord w = true) : w ∈ tbG := List.mem_filter.mpr ⟨h, hg⟩
theorem tbG_sub {w : Cond} (h : w ∈ tbG) : w ∈ lw_tbl := (List.mem_filter.mp h).1
theorem tbG_good {w : Cond} (h : w ∈ tbG) : goodWord w = true := (List.mem_filter.mp h).2
theorem m_0 : Cond.selects "IharaZeta$History" ⟨"IharaZeta$History","discardOldest","()V"⟩ ⟨"IharaZeta$History","discardOldest","()V"⟩ ∈ tbG := tbG_in (List.mem_of_getElem? (i := 0) (by decide +kernel)) rfl
theorem m_1 : Cond.selects "IharaZeta$EdgeText" ⟨"IharaZeta$EdgeText","accept","(ILIharaZeta$Graph;)Z"⟩ ⟨"IharaZeta$EdgeText","accept","(ILIharaZeta$Graph;)Z"⟩ ∈ tbG := tbG_in (List.mem_of_getElem? (i := 1) (by decide +kernel)) rfl
theorem m_2 : Cond.selects "IharaZeta$EdgeText" ⟨"IharaZeta$EdgeText","acceptFirst","(ILIharaZeta$Graph;)Z"⟩ ⟨"IharaZeta$EdgeText","acceptFirst","(ILIharaZeta$Graph;)Z"⟩ ∈ tbG := tbG_in (List.mem_of_getElem? (i := 2) (by decide +kernel)) rfl
theorem m_3 : Cond.selects "IharaZeta$EdgeText" ⟨"IharaZeta$EdgeText","acceptSign","(I)Z"⟩ ⟨"IharaZeta$EdgeText","acceptSign","(I)Z"⟩ ∈ tbG := tbG_in (List.mem_of_getElem? (i := 3) (by decide +kernel)) rfl
theorem m_4 : Cond.selects "IharaZeta$EdgeText" ⟨"IharaZeta$EdgeText","acceptSecond","(ILIharaZeta$Graph;)Z"⟩ ⟨"IharaZeta$EdgeText","acceptSecond","(ILIharaZeta$Graph;)Z"⟩ ∈ tbG := tbG_in (List.mem_of_getElem? (i := 4) (by decide +kernel)) rfl
theorem m_5 : Cond.selects "IharaZeta$EdgeText" ⟨"IharaZeta$EdgeText","acceptEnd","(ILIharaZeta$Graph;)Z"⟩ ⟨"IharaZeta$EdgeText","acceptEnd","(ILIharaZeta$Graph;)Z"⟩ ∈ tbG := tbG_in (List.mem_of_getElem? (i := 5) (by decide +kernel)) rfl
theorem m_6 : Cond.selects "IharaZeta$Grouping" ⟨"IharaZeta$Grouping","separate","()V"⟩ ⟨"IharaZeta$Grouping","separate","()V"⟩ ∈ tbG := tbG_in (List.mem_of_getElem? (i := 6) (by decide +kernel)) rfl
theorem m_7 : Cond.selects "IharaZeta$Grouping" ⟨"IharaZeta$Grouping","unite","(LIharaZeta$Graph;I)Z"⟩ ⟨"IharaZeta$Grouping","unite","(LIharaZeta$Graph;I)Z"⟩ ∈ tbG := tbG_in (List.mem_of_getElem? (i := 7) (by decide +kernel)) rfl
theorem m_8 : Cond.selects "IharaZeta$Grouping" ⟨"IharaZeta$Grouping","turnFor","(LIharaZeta$Graph;I)I"⟩ ⟨"IharaZeta$Grouping","turnFor","(LIharaZeta$Graph;I)I"⟩ ∈ tbG := tbG_in (List.mem_of_getElem? (i := 8) (by decide +kernel)) rfl
theorem m_9 : Cond.selects "IharaZeta$WalkCounter" ⟨"IharaZeta$WalkCounter","addReturns","(LIharaZeta$Graph;Z[J)V"⟩ ⟨"IharaZeta$WalkCounter","addReturns","(LIharaZeta$Graph;Z[J)V"⟩ ∈ tbG := tbG_in (List.mem_of_getElem? (i := 9) (by decide +kernel)) rfl
theorem m_10 : Cond.selects "IharaZeta$WalkCounter" ⟨"IharaZeta$WalkCounter","goOn","(LIharaZeta$Graph;Z)V"⟩ ⟨"IharaZeta$WalkCounter","goOn","(LIharaZeta$Graph;Z)V"⟩ ∈ tbG := tbG_in (List.mem_of_getElem? (i := 10) (by decide +kernel)) rfl
theorem m_11 : Cond.selects "IharaZeta$PrimeSearch" ⟨"IharaZeta$PrimeSearch","extend","(LIharaZeta$Graph;III)Z"⟩ ⟨"IharaZeta$PrimeSearch","extend","(LIharaZeta$Graph;III)Z"⟩ ∈ tbG := tbG_in (List.mem_of_getElem? (i := 11) (by decide +kernel)) rfl
theorem m_12 : Cond.selects "IharaZeta$PrimeSearch" ⟨"IharaZeta$PrimeSearch","isWanted","(LIharaZeta$Graph;II)Z"⟩ ⟨"IharaZeta$PrimeSearch","isWanted","(LIharaZeta$Graph;II)Z"⟩ ∈ tbG := tbG_in (List.mem_of_getElem? (i := 12) (by decide +kernel)) rfl
theorem m_13 : Cond.selects "IharaZeta" ⟨"IharaZeta","makeEdgePolynomial","()V"⟩ ⟨"IharaZeta","makeEdgePolynomial","()V"⟩ ∈ tbG := tbG_in (List.mem_of_getElem? (i := 13) (by decide +kernel)) rfl
theorem m_14 : Cond.selects "IharaZeta$VertexPolynomial" ⟨"IharaZeta$VertexPolynomial","makeMinor","(LIharaZeta$Graph;I)V"⟩ ⟨"IharaZeta$VertexPolynomial","makeMinor","(LIharaZeta$Graph;I)V"⟩ ∈ tbG := tbG_in (List.mem_of_getElem? (i := 14) (by decide +kernel)) rfl
theorem m_15 : Cond.selects "IharaZeta$Grouping" ⟨"IharaZeta$Grouping","isForest","(LIharaZeta$Graph;I)Z"⟩ ⟨"IharaZeta$Grouping","isForest","(LIharaZeta$Graph;I)Z"⟩ ∈ tbG := tbG_in (List.mem_of_getElem? (i := 15) (by decide +kernel)) rfl
theorem m_16 : Cond.selects "IharaZetaModel" ⟨"IharaZetaModel","save","()V"⟩ ⟨"IharaZetaModel","save","()V"⟩ ∈ tbG := tbG_in (List.mem_of_getElem? (i := 16) (by decide +kernel)) rfl
theorem m_17 : Cond.selects "IharaZetaModel" ⟨"IharaZetaModel","isVertex","(I)Z"⟩ ⟨"IharaZetaModel","isVertex","(I)Z"⟩ ∈ tbG := tbG_in (List.mem_of_getElem? (i := 17) (by decide +kernel)) rfl
theorem m_18 : Cond.selects "IharaZetaModel" ⟨"IharaZetaModel","isEdge","(I)Z"⟩ ⟨"IharaZetaModel","isEdge","(I)Z"⟩ ∈ tbG := tbG_in (List.mem_of_getElem? (i := 18) (by decide +kernel)) rfl
theorem m_19 : Cond.selects "IharaZetaModel" ⟨"IharaZetaModel","reads","()I"⟩ ⟨"IharaZetaModel","reads","()I"⟩ ∈ tbG := tbG_in (List.mem_of_getElem? (i := 19) (by decide +kernel)) rfl
theorem m_20 : Cond.selects "IharaZetaModel" ⟨"IharaZetaModel","takes","(I)Z"⟩ ⟨"IharaZetaModel","takes","(I)Z"⟩ ∈ tbG := tbG_in (List.mem_of_getElem? (i := 20) (by decide +kernel)) rfl
theorem m_21 : Cond.selects "IharaZetaModel" ⟨"IharaZetaModel","isDirected","(I)Z"⟩ ⟨"IharaZetaModel","isDirected","(I)Z"⟩ ∈ tbG := tbG_in (List.mem_of_getElem? (i := 21) (by decide +kernel)) rfl
theorem m_22 : Cond.selects "IharaZetaModel" ⟨"IharaZetaModel","endOf","(II)I"⟩ ⟨"IharaZetaModel","endOf","(II)I"⟩ ∈ tbG := tbG_in (List.mem_of_getElem? (i := 22) (by decide +kernel)) rfl
theorem m_23 : Cond.selects "IharaZetaModel" ⟨"IharaZetaModel","isNext","(II)Z"⟩ ⟨"IharaZetaModel","isNext","(II)Z"⟩ ∈ tbG := tbG_in (List.mem_of_getElem? (i := 23) (by decide +kernel)) rfl
theorem m_24 : Cond.selects "IharaZetaModel" ⟨"IharaZetaModel","degreeOf","(I)I"⟩ ⟨"IharaZetaModel","degreeOf","(I)I"⟩ ∈ tbG := tbG_in (List.mem_of_getElem? (i := 24) (by decide +kernel)) rfl
theorem m_25 : Cond.selects "IharaZetaModel" ⟨"IharaZetaModel","partsNow","()I"⟩ ⟨"IharaZetaModel","partsNow","()I"⟩ ∈ tbG := tbG_in (List.mem_of_getElem? (i := 25) (by decide +kernel)) rfl
theorem m_26 : Cond.selects "IharaZetaModel" ⟨"IharaZetaModel","signOf","(I)I"⟩ ⟨"IharaZetaModel","signOf","(I)I"⟩ ∈ tbG := tbG_in (List.mem_of_getElem? (i := 26) (by decide +kernel)) rfl
theorem m_27 : Cond.selects "IharaZetaModel" ⟨"IharaZetaModel","walksOf","(ZI)J"⟩ ⟨"IharaZetaModel","walksOf","(ZI)J"⟩ ∈ tbG := tbG_in (List.mem_of_getElem? (i := 27) (by decide +kernel)) rfl
theorem m_28 : Cond.selects "IharaZetaModel" ⟨"IharaZetaModel","laysTraces","(ZI[J)V"⟩ ⟨"IharaZetaModel","laysTraces","(ZI[J)V"⟩ ∈ tbG := tbG_in (List.mem_of_getElem? (i := 28) (by decide +kernel)) rfl
theorem m_29 : Cond.selects "IharaZetaModel" ⟨"IharaZetaModel","laysEdges","(Z)V"⟩ ⟨"IharaZetaModel","laysEdges","(Z)V"⟩ ∈ tbG := tbG_in (List.mem_of_getElem? (i := 29) (by decide +kernel)) rfl
theorem m_30 : Cond.selects "IharaZetaModel" ⟨"IharaZetaModel","goesOn","()V"⟩ ⟨"IharaZetaModel","goesOn","()V"⟩ ∈ tbG := tbG_in (List.mem_of_getElem? (i := 30) (by decide +kernel)) rfl
theorem m_31 : Cond.selects "IharaZetaModel" ⟨"IharaZetaModel","laysPrimes","(I)V"⟩ ⟨"IharaZetaModel","laysPrimes","(I)V"⟩ ∈ tbG := tbG_in (List.mem_of_getElem? (i := 31) (by decide +kernel)) rfl
theorem m_32 : Cond.selects "IharaZetaModel" ⟨"IharaZetaModel","finds","(II)Z"⟩ ⟨"IharaZetaModel","finds","(II)Z"⟩ ∈ tbG := tbG_in (List.mem_of_getElem? (i := 32) (by decide +kernel)) rfl
theorem m_33 : Cond.selects "IharaZetaModel" ⟨"IharaZetaModel","isFirst","(I)Z"⟩ ⟨"IharaZetaModel","isFirst","(I)Z"⟩ ∈ tbG := tbG_in (List.mem_of_getElem? (i := 33) (by decide +kernel)) rfl
theorem m_34 : Cond.selects "IharaZetaModel" ⟨"IharaZetaModel","laysEdgePoly","()V"⟩ ⟨"IharaZetaModel","laysEdgePoly","()V"⟩ ∈ tbG := tbG_in (List.mem_of_getElem? (i := 34) (by decide +kernel)) rfl
theorem m_35 : Cond.selects "IharaZetaModel" ⟨"IharaZetaModel","laysPoly","()V"⟩ ⟨"IharaZetaModel","laysPoly","()V"⟩ ∈ tbG := tbG_in (List.mem_of_getElem? (i := 35) (by decide +kernel)) rfl
theorem m_36 : Cond.selects "IharaZetaModel" ⟨"IharaZetaModel","clears","([J)V"⟩ ⟨"IharaZetaModel","clears","([J)V"⟩ ∈ tbG := tbG_in (List.mem_of_getElem? (i := 36) (by decide +kernel)) rfl
theorem m_37 : Cond.selects "IharaZetaModel" ⟨"IharaZetaModel","laysStep","(I)V"⟩ ⟨"IharaZetaModel","laysStep","(I)V"⟩ ∈ tbG := tbG_in (List.mem_of_getElem? (i := 37) (by decide +kernel)) rfl
theorem m_38 : Cond.selects "IharaZetaModel" ⟨"IharaZetaModel","laysVertices","()V"⟩ ⟨"IharaZetaModel","laysVertices","()V"⟩ ∈ tbG := tbG_in (List.mem_of_getElem? (i := 38) (by decide +kernel)) rfl
theorem m_39 : Cond.selects "IharaZetaModel" ⟨"IharaZetaModel","laysBassPoly","()V"⟩ ⟨"IharaZetaModel","laysBassPoly","()V"⟩ ∈ tbG := tbG_in (List.mem_of_getElem? (i := 39) (by decide +kernel)) rfl
theorem m_40 : Cond.selects "IharaZetaModel" ⟨"IharaZetaModel","laysTrees","()V"⟩ ⟨"IharaZetaModel","laysTrees","()V"⟩ ∈ tbG := tbG_in (List.mem_of_getElem? (i := 40) (by decide +kernel)) rfl
theorem m_41 : Cond.initialized "IharaZetaLaw" ∈ tbG := tbG_in (List.mem_of_getElem? (i := 41) (by decide +kernel)) rfl
theorem m_42 : Cond.initialized "IharaZeta" ∈ tbG := tbG_in (List.mem_of_getElem? (i := 42) (by decide +kernel)) rfl
theorem m_43 : Cond.initialized "IharaZeta$Graph" ∈ tbG := tbG_in (List.mem_of_getElem? (i := 43) (by decide +kernel)) rfl
theorem m_44 : Cond.initialized "IharaZeta$History" ∈ tbG := tbG_in (List.mem_of_getElem? (i := 44) (by decide +kernel)) rfl
theorem m_45 : Cond.initialized "IharaZeta$EdgeText" ∈ tbG := tbG_in (List.mem_of_getElem? (i := 45) (by decide +kernel)) rfl
theorem m_46 : Cond.initialized "IharaZeta$Grouping" ∈ tbG := tbG_in (List.mem_of_getElem? (i := 46) (by decide +kernel)) rfl
theorem m_47 : Cond.initialized "IharaZeta$WalkCounter" ∈ tbG := tbG_in (List.mem_of_getElem? (i := 47) (by decide +kernel)) rfl
theorem m_48 : Cond.initialized "IharaZeta$PrimeSearch" ∈ tbG := tbG_in (List.mem_of_getElem? (i := 48) (by decide +kernel)) rfl
theorem m_49 : Cond.initialized "IharaZeta$EdgePolynomial" ∈ tbG := tbG_in (List.mem_of_getElem? (i := 49) (by decide +kernel)) rfl
theorem m_50 : Cond.initialized "IharaZeta$VertexPolynomial" ∈ tbG := tbG_in (List.mem_of_getElem? (i := 50) (by decide +kernel)) rfl
theorem m_51 : Cond.initialized "IharaZetaModel" ∈ tbG := tbG_in (List.mem_of_getElem? (i := 51) (by decide +kernel)) rfl
theorem m_52 : Cond.initialized "java/util/Arrays" ∈ tbG := tbG_in (List.mem_of_getElem? (i := 52) (by decide +kernel)) rfl
theorem m_53 : Cond.initialized "java/lang/Integer" ∈ tbG := tbG_in (List.mem_of_getElem? (i := 53) (by decide +kernel)) rfl
theorem m_54 : Cond.initialized "java/lang/System" ∈ tbG := tbG_in (List.mem_of_getElem? (i := 54) (by decide +kernel)) rfl
theorem m_55 : Cond.classLink "IharaZetaLaw" 7 "IharaZeta" ∈ tbG := tbG_in (List.mem_of_getElem? (i := 55) (by decide +kernel)) rfl
theorem m_56 : Cond.instantiable "IharaZeta" 9 ∈ tbG := tbG_in (List.mem_of_getElem? (i := 56) (by decide +kernel)) rfl
theorem m_57 : Cond.methodLink "IharaZetaLaw" 9 ⟨"IharaZeta","<init>","()V"⟩ ∈ tbG := tbG_in (List.mem_of_getElem? (i := 57) (by decide +kernel)) rfl
theorem m_58 : Cond.instanceMethod ⟨"IharaZeta","<init>","()V"⟩ ∈ tbG := tbG_in (List.mem_of_getElem? (i := 58) (by decide +kernel)) rfl
theorem m_59 : Cond.code ⟨"IharaZeta","<init>","()V"⟩ prog_1_method_1_code 1 (none : Option FieldType) ∈ tbG := tbG_in (List.mem_of_getElem? (i := 59) (by decide +kernel)) rfl
theorem m_60 : Cond.methodLink "IharaZeta" 3 ⟨"java/lang/Object","<init>","()V"⟩ ∈ tbG := tbG_in (List.mem_of_getElem? (i := 60) (by decide +kernel)) rfl
theorem m_61 : Cond.instanceMethod ⟨"java/lang/Object","<init>","()V"⟩ ∈ tbG := tbG_in (List.mem_of_getElem? (i := 61) (by decide +kernel)) rfl
theorem m_62 : Cond.code ⟨"java/lang/Object","<init>","()V"⟩ object_method_1_code 1 (none : Option FieldType) ∈ tbG := tbG_in (List.mem_of_getElem? (i := 62) (by decide +kernel)) rfl
theorem m_63 : Cond.classLink "IharaZeta" 9 "IharaZeta$Graph" ∈ tbG := tbG_in (List.mem_of_getElem? (i := 63) (by decide +kernel)) rfl
theorem m_64 : Cond.instantiable "IharaZeta$Graph" 5 ∈ tbG := tbG_in (List.mem_of_getElem? (i := 64) (by decide +kernel)) rfl
theorem m_65 : Cond.methodLinkNest "IharaZeta" 11 ⟨"IharaZeta$Graph","<init>","()V"⟩ "IharaZeta" ∈ lw_tbl := List.mem_of_getElem? (i := 65) (by decide +kernel)
theorem m_66 : Cond.instanceMethod ⟨"IharaZeta$Graph","<init>","()V"⟩ ∈ tbG := tbG_in (List.mem_of_getElem? (i := 66) (by decide +kernel)) rfl
theorem m_67 : Cond.code ⟨"IharaZeta$Graph","<init>","()V"⟩ prog_4_method_1_code 1 (none : Option FieldType) ∈ tbG := tbG_in (List.mem_of_getElem? (i := 67) (by decide +kernel)) rfl
theorem m_68 : Cond.methodLink "IharaZeta$Graph" 3 ⟨"java/lang/Object","<init>","()V"⟩ ∈ tbG := tbG_in (List.mem_of_getElem? (i := 68) (by decide +kernel)) rfl
theorem m_69 : Cond.fieldLink "IharaZeta$Graph" 9 "IharaZeta$Graph" "vertices" "I" ∈ tbG := tbG_in (List.mem_of_getElem? (i := 69) (by decide +kernel)) rfl
theorem m_70 : Cond.fieldLinkNest "IharaZeta$Grouping" 21 "IharaZeta$Graph" "vertices" "I" "IharaZeta" ∈ lw_tbl := List.mem_of_getElem? (i := 70) (by decide +kernel)
theorem m_71 : Cond.fieldLinkNest "IharaZeta" 70 "IharaZeta$Graph" "vertices" "I" "IharaZeta" ∈ lw_tbl := List.mem_of_getElem? (i := 71) (by decide +kernel)
theorem m_72 : Cond.fieldLinkNest "IharaZeta$VertexPolynomial" 26 "IharaZeta$Graph" "vertices" "I" "IharaZeta" ∈ lw_tbl := List.mem_of_getElem? (i := 72) (by decide +kernel)
theorem m_73 : Cond.fieldLink "IharaZeta$Graph" 15 "IharaZeta$Graph" "edges" "I" ∈ tbG := tbG_in (List.mem_of_getElem? (i := 73) (by decide +kernel)) rfl
theorem m_74 : Cond.fieldLinkNest "IharaZeta$Grouping" 27 "IharaZeta$Graph" "edges" "I" "IharaZeta" ∈ lw_tbl := List.mem_of_getElem? (i := 74) (by decide +kernel)
theorem m_75 : Cond.fieldLinkNest "IharaZeta" 94 "IharaZeta$Graph" "edges" "I" "IharaZeta" ∈ lw_tbl := List.mem_of_getElem? (i := 75) (by decide +kernel)
theorem m_76 : Cond.fieldLinkNest "IharaZeta$PrimeSearch" 32 "IharaZeta$Graph" "edges" "I" "IharaZeta" ∈ lw_tbl := List.mem_of_getElem? (i := 76) (by decide +kernel)
theorem m_77 : Cond.fieldLinkNest "IharaZeta$WalkCounter" 50 "IharaZeta$Graph" "edges" "I" "IharaZeta" ∈ lw_tbl := List.mem_of_getElem? (i := 77) (by decide +kernel)
theorem m_78 : Cond.fieldLink "IharaZeta$Graph" 18 "IharaZeta$Graph" "firsts" "[I" ∈ tbG := tbG_in (List.mem_of_getElem? (i := 78) (by decide +kernel)) rfl
theorem m_79 : Cond.fieldLinkNest "IharaZeta$Grouping" 47 "IharaZeta$Graph" "firsts" "[I" "IharaZeta" ∈ lw_tbl := List.mem_of_getElem? (i := 79) (by decide +kernel)
theorem m_80 : Cond.fieldLink "IharaZeta$Graph" 22 "IharaZeta$Graph" "seconds" "[I" ∈ tbG := tbG_in (List.mem_of_getElem? (i := 80) (by decide +kernel)) rfl
theorem m_81 : Cond.fieldLinkNest "IharaZeta$Grouping" 50 "IharaZeta$Graph" "seconds" "[I" "IharaZeta" ∈ lw_tbl := List.mem_of_getElem? (i := 81) (by decide +kernel)
theorem m_82 : Cond.fieldLink "IharaZeta$Graph" 25 "IharaZeta$Graph" "signs" "[I" ∈ tbG := tbG_in (List.mem_of_getElem? (i := 82) (by decide +kernel)) rfl
theorem m_83 : Cond.fieldLinkNest "IharaZeta$PrimeSearch" 23 "IharaZeta$Graph" "signs" "[I" "IharaZeta" ∈ lw_tbl := List.mem_of_getElem? (i := 83) (by decide +kernel)
theorem m_84 : Cond.fieldLinkNest "IharaZeta" 103 "IharaZeta$Graph" "signs" "[I" "IharaZeta" ∈ lw_tbl := List.mem_of_getElem? (i := 84) (by decide +kernel)
theorem m_85 : Cond.fieldLinkNest "IharaZeta$WalkCounter" 66 "IharaZeta$Graph" "signs" "[I" "IharaZeta" ∈ lw_tbl := List.mem_of_getElem? (i := 85) (by decide +kernel)
theorem m_86 : Cond.fieldLinkNest "IharaZeta$Grouping" 53 "IharaZeta$Graph" "signs" "[I" "IharaZeta" ∈ lw_tbl := List.mem_of_getElem? (i := 86) (by decide +kernel)
theorem m_87 : Cond.lays "IharaZeta$Graph" "IharaZeta$Graph" "vertices" "I" ∈ tbG := tbG_in (List.mem_of_getElem? (i := 87) (by decide +kernel)) rfl
theorem m_89 : Cond.lays "IharaZeta$Graph" "IharaZeta$Graph" "edges" "I" ∈ tbG := tbG_in (List.mem_of_getElem? (i := 89) (by decide +kernel)) rfl
theorem m_91 : Cond.laysFinal "IharaZeta$Graph" "IharaZeta$Graph" "firsts" "[I" ∈ tbG := tbG_in (List.mem_of_getElem? (i := 91) (by decide +kernel)) rfl
theorem m_93 : Cond.laysFinal "IharaZeta$Graph" "IharaZeta$Graph" "seconds" "[I" ∈ tbG := tbG_in (List.mem_of_getElem? (i := 93) (by decide +kernel)) rfl
theorem m_95 : Cond.laysFinal "IharaZeta$Graph" "IharaZeta$Graph" "signs" "[I" ∈ tbG := tbG_in (List.mem_of_getElem? (i := 95) (by decide +kernel)) rfl
theorem m_98 : Cond.arrayClass FieldType.int ∈ tbG := tbG_in (List.mem_of_getElem? (i := 98) (by decide +kernel)) rfl
theorem m_99 : Cond.classLink "IharaZeta" 21 "IharaZeta$History" ∈ tbG := tbG_in (List.mem_of_getElem? (i := 99) (by decide +kernel)) rfl
theorem m_100 : Cond.instantiable "IharaZeta$History" 2 ∈ tbG := tbG_in (List.mem_of_getElem? (i := 100) (by decide +kernel)) rfl
theorem m_101 : Cond.methodLink "IharaZeta" 23 ⟨"IharaZeta$History","<init>","()V"⟩ ∈ tbG := tbG_in (List.mem_of_getElem? (i := 101) (by decide +kernel)) rfl
theorem m_102 : Cond.instanceMethod ⟨"IharaZeta$History","<init>","()V"⟩ ∈ tbG := tbG_in (List.mem_of_getElem? (i := 102) (by decide +kernel)) rfl
theorem m_103 : Cond.code ⟨"IharaZeta$History","<init>","()V"⟩ prog_6_method_1_code 2 (none : Option FieldType) ∈ tbG := tbG_in (List.mem_of_getElem? (i := 103) (by decide +kernel)) rfl
theorem m_104 : Cond.methodLink "IharaZeta$History" 3 ⟨"java/lang/Object","<init>","()V"⟩ ∈ tbG := tbG_in (List.mem_of_getElem? (i := 104) (by decide +kernel)) rfl
theorem m_105 : Cond.classLink "IharaZeta$History" 15 "IharaZeta$Graph" ∈ tbG := tbG_in (List.mem_of_getElem? (i := 105) (by decide +kernel)) rfl
theorem m_106 : Cond.arrayOver (FieldType.object "IharaZeta$Graph") ∈ lw_tbl := List.mem_of_getElem? (i := 106) (by decide +kernel)
theorem m_107 : Cond.methodLinkNest "IharaZeta$History" 21 ⟨"IharaZeta$Graph","<init>","()V"⟩ "IharaZeta" ∈ lw_tbl := List.mem_of_getElem? (i := 107) (by decide +kernel)
theorem m_108 : Cond.fieldLink "IharaZeta$History" 9 "IharaZeta$History" "count" "I" ∈ tbG := tbG_in (List.mem_of_getElem? (i := 108) (by decide +kernel)) rfl
theorem m_109 : Cond.fieldLinkNest "IharaZeta" 119 "IharaZeta$History" "count" "I" "IharaZeta" ∈ lw_tbl := List.mem_of_getElem? (i := 109) (by decide +kernel)
theorem m_110 : Cond.fieldLink "IharaZeta$History" 17 "IharaZeta$History" "saved" "[LIharaZeta$Graph;" ∈ tbG := tbG_in (List.mem_of_getElem? (i := 110) (by decide +kernel)) rfl
theorem m_111 : Cond.lays "IharaZeta$History" "IharaZeta$History" "count" "I" ∈ tbG := tbG_in (List.mem_of_getElem? (i := 111) (by decide +kernel)) rfl
theorem m_113 : Cond.laysFinal "IharaZeta$History" "IharaZeta$History" "saved" "[LIharaZeta$Graph;" ∈ tbG := tbG_in (List.mem_of_getElem? (i := 113) (by decide +kernel)) rfl
theorem m_116 : Cond.classLink "IharaZeta" 28 "IharaZeta$EdgeText" ∈ tbG := tbG_in (List.mem_of_getElem? (i := 116) (by decide +kernel)) rfl
theorem m_117 : Cond.instantiable "IharaZeta$EdgeText" 6 ∈ tbG := tbG_in (List.mem_of_getElem? (i := 117) (by decide +kernel)) rfl
theorem m_118 : Cond.methodLinkNest "IharaZeta" 30 ⟨"IharaZeta$EdgeText","<init>","()V"⟩ "IharaZeta" ∈ lw_tbl := List.mem_of_getElem? (i := 118) (by decide +kernel)
theorem m_119 : Cond.instanceMethod ⟨"IharaZeta$EdgeText","<init>","()V"⟩ ∈ tbG := tbG_in (List.mem_of_getElem? (i := 119) (by decide +kernel)) rfl
theorem m_120 : Cond.code ⟨"IharaZeta$EdgeText","<init>","()V"⟩ prog_3_method_1_code 1 (none : Option FieldType) ∈ tbG := tbG_in (List.mem_of_getElem? (i := 120) (by decide +kernel)) rfl
theorem m_121 : Cond.methodLink "IharaZeta$EdgeText" 3 ⟨"java/lang/Object","<init>","()V"⟩ ∈ tbG := tbG_in (List.mem_of_getElem? (i := 121) (by decide +kernel)) rfl
theorem m_122 : Cond.fieldLink "IharaZeta$EdgeText" 9 "IharaZeta$EdgeText" "length" "I" ∈ tbG := tbG_in (List.mem_of_getElem? (i := 122) (by decide +kernel)) rfl
theorem m_123 : Cond.fieldLinkNest "IharaZeta" 107 "IharaZeta$EdgeText" "length" "I" "IharaZeta" ∈ lw_tbl := List.mem_of_getElem? (i := 123) (by decide +kernel)
theorem m_124 : Cond.fieldLink "IharaZeta$EdgeText" 15 "IharaZeta$EdgeText" "characters" "[I" ∈ tbG := tbG_in (List.mem_of_getElem? (i := 124) (by decide +kernel)) rfl
theorem m_125 : Cond.fieldLink "IharaZeta$EdgeText" 19 "IharaZeta$EdgeText" "stage" "I" ∈ tbG := tbG_in (List.mem_of_getElem? (i := 125) (by decide +kernel)) rfl
theorem m_126 : Cond.fieldLink "IharaZeta$EdgeText" 48 "IharaZeta$EdgeText" "first" "I" ∈ tbG := tbG_in (List.mem_of_getElem? (i := 126) (by decide +kernel)) rfl
theorem m_127 : Cond.fieldLink "IharaZeta$EdgeText" 54 "IharaZeta$EdgeText" "second" "I" ∈ tbG := tbG_in (List.mem_of_getElem? (i := 127) (by decide +kernel)) rfl
theorem m_128 : Cond.fieldLink "IharaZeta$EdgeText" 51 "IharaZeta$EdgeText" "sign" "I" ∈ tbG := tbG_in (List.mem_of_getElem? (i := 128) (by decide +kernel)) rfl
theorem m_129 : Cond.lays "IharaZeta$EdgeText" "IharaZeta$EdgeText" "length" "I" ∈ tbG := tbG_in (List.mem_of_getElem? (i := 129) (by decide +kernel)) rfl
theorem m_131 : Cond.laysFinal "IharaZeta$EdgeText" "IharaZeta$EdgeText" "characters" "[I" ∈ tbG := tbG_in (List.mem_of_getElem? (i := 131) (by decide +kernel)) rfl
theorem m_133 : Cond.lays "IharaZeta$EdgeText" "IharaZeta$EdgeText" "stage" "I" ∈ tbG := tbG_in (List.mem_of_getElem? (i := 133) (by decide +kernel)) rfl
theorem m_135 : Cond.lays "IharaZeta$EdgeText" "IharaZeta$EdgeText" "first" "I" ∈ tbG := tbG_in (List.mem_of_getElem? (i := 135) (by decide +kernel)) rfl
theorem m_137 : Cond.lays "IharaZeta$EdgeText" "IharaZeta$EdgeText" "second" "I" ∈ tbG := tbG_in (List.mem_of_getElem? (i := 137) (by decide +kernel)) rfl
theorem m_139 : Cond.lays "IharaZeta$EdgeText" "IharaZeta$EdgeText" "sign" "I" ∈ tbG := tbG_in (List.mem_of_getElem? (i := 139) (by decide +kernel)) rfl
theorem m_142 : Cond.classLink "IharaZeta" 35 "IharaZeta$Grouping" ∈ tbG := tbG_in (List.mem_of_getElem? (i := 142) (by decide +kernel)) rfl
theorem m_143 : Cond.instantiable "IharaZeta$Grouping" 2 ∈ tbG := tbG_in (List.mem_of_getElem? (i := 143) (by decide +kernel)) rfl
theorem m_144 : Cond.methodLinkNest "IharaZeta" 37 ⟨"IharaZeta$Grouping","<init>","()V"⟩ "IharaZeta" ∈ lw_tbl := List.mem_of_getElem? (i := 144) (by decide +kernel)
theorem m_145 : Cond.instanceMethod ⟨"IharaZeta$Grouping","<init>","()V"⟩ ∈ tbG := tbG_in (List.mem_of_getElem? (i := 145) (by decide +kernel)) rfl
theorem m_146 : Cond.code ⟨"IharaZeta$Grouping","<init>","()V"⟩ prog_5_method_1_code 1 (none : Option FieldType) ∈ tbG := tbG_in (List.mem_of_getElem? (i := 146) (by decide +kernel)) rfl
theorem m_147 : Cond.methodLink "IharaZeta$Grouping" 3 ⟨"java/lang/Object","<init>","()V"⟩ ∈ tbG := tbG_in (List.mem_of_getElem? (i := 147) (by decide +kernel)) rfl
theorem m_148 : Cond.fieldLink "IharaZeta$Grouping" 9 "IharaZeta$Grouping" "groups" "[I" ∈ tbG := tbG_in (List.mem_of_getElem? (i := 148) (by decide +kernel)) rfl
theorem m_149 : Cond.fieldLink "IharaZeta$Grouping" 15 "IharaZeta$Grouping" "sides" "[I" ∈ tbG := tbG_in (List.mem_of_getElem? (i := 149) (by decide +kernel)) rfl
theorem m_150 : Cond.laysFinal "IharaZeta$Grouping" "IharaZeta$Grouping" "groups" "[I" ∈ tbG := tbG_in (List.mem_of_getElem? (i := 150) (by decide +kernel)) rfl
theorem m_152 : Cond.laysFinal "IharaZeta$Grouping" "IharaZeta$Grouping" "sides" "[I" ∈ tbG := tbG_in (List.mem_of_getElem? (i := 152) (by decide +kernel)) rfl
theorem m_155 : Cond.classLink "IharaZeta" 42 "IharaZeta$WalkCounter" ∈ tbG := tbG_in (List.mem_of_getElem? (i := 155) (by decide +kernel)) rfl
theorem m_156 : Cond.instantiable "IharaZeta$WalkCounter" 6 ∈ tbG := tbG_in (List.mem_of_getElem? (i := 156) (by decide +kernel)) rfl
theorem m_157 : Cond.methodLinkNest "IharaZeta" 44 ⟨"IharaZeta$WalkCounter","<init>","()V"⟩ "IharaZeta" ∈ lw_tbl := List.mem_of_getElem? (i := 157) (by decide +kernel)
theorem m_158 : Cond.instanceMethod ⟨"IharaZeta$WalkCounter","<init>","()V"⟩ ∈ tbG := tbG_in (List.mem_of_getElem? (i := 158) (by decide +kernel)) rfl
theorem m_159 : Cond.code ⟨"IharaZeta$WalkCounter","<init>","()V"⟩ prog_9_method_1_code 1 (none : Option FieldType) ∈ tbG := tbG_in (List.mem_of_getElem? (i := 159) (by decide +kernel)) rfl
theorem m_160 : Cond.methodLink "IharaZeta$WalkCounter" 3 ⟨"java/lang/Object","<init>","()V"⟩ ∈ tbG := tbG_in (List.mem_of_getElem? (i := 160) (by decide +kernel)) rfl
theorem m_161 : Cond.fieldLink "IharaZeta$WalkCounter" 9 "IharaZeta$WalkCounter" "closed" "[J" ∈ tbG := tbG_in (List.mem_of_getElem? (i := 161) (by decide +kernel)) rfl
theorem m_162 : Cond.fieldLinkNest "IharaZeta" 154 "IharaZeta$WalkCounter" "closed" "[J" "IharaZeta" ∈ lw_tbl := List.mem_of_getElem? (i := 162) (by decide +kernel)
theorem m_163 : Cond.fieldLink "IharaZeta$WalkCounter" 15 "IharaZeta$WalkCounter" "closedSigned" "[J" ∈ tbG := tbG_in (List.mem_of_getElem? (i := 163) (by decide +kernel)) rfl
theorem m_164 : Cond.fieldLinkNest "IharaZeta" 161 "IharaZeta$WalkCounter" "closedSigned" "[J" "IharaZeta" ∈ lw_tbl := List.mem_of_getElem? (i := 164) (by decide +kernel)
theorem m_165 : Cond.fieldLink "IharaZeta$WalkCounter" 18 "IharaZeta$WalkCounter" "primitive" "[J" ∈ tbG := tbG_in (List.mem_of_getElem? (i := 165) (by decide +kernel)) rfl
theorem m_166 : Cond.fieldLinkNest "IharaZeta" 167 "IharaZeta$WalkCounter" "primitive" "[J" "IharaZeta" ∈ lw_tbl := List.mem_of_getElem? (i := 166) (by decide +kernel)
theorem m_167 : Cond.fieldLink "IharaZeta$WalkCounter" 21 "IharaZeta$WalkCounter" "primitiveSigned" "[J" ∈ tbG := tbG_in (List.mem_of_getElem? (i := 167) (by decide +kernel)) rfl
theorem m_168 : Cond.fieldLinkNest "IharaZeta" 173 "IharaZeta$WalkCounter" "primitiveSigned" "[J" "IharaZeta" ∈ lw_tbl := List.mem_of_getElem? (i := 168) (by decide +kernel)
theorem m_169 : Cond.fieldLink "IharaZeta$WalkCounter" 24 "IharaZeta$WalkCounter" "reached" "[J" ∈ tbG := tbG_in (List.mem_of_getElem? (i := 169) (by decide +kernel)) rfl
theorem m_170 : Cond.fieldLink "IharaZeta$WalkCounter" 27 "IharaZeta$WalkCounter" "arrived" "[J" ∈ tbG := tbG_in (List.mem_of_getElem? (i := 170) (by decide +kernel)) rfl
theorem m_171 : Cond.laysFinal "IharaZeta$WalkCounter" "IharaZeta$WalkCounter" "closed" "[J" ∈ tbG := tbG_in (List.mem_of_getElem? (i := 171) (by decide +kernel)) rfl
theorem m_173 : Cond.laysFinal "IharaZeta$WalkCounter" "IharaZeta$WalkCounter" "closedSigned" "[J" ∈ tbG := tbG_in (List.mem_of_getElem? (i := 173) (by decide +kernel)) rfl
theorem m_175 : Cond.laysFinal "IharaZeta$WalkCounter" "IharaZeta$WalkCounter" "primitive" "[J" ∈ tbG := tbG_in (List.mem_of_getElem? (i := 175) (by decide +kernel)) rfl
theorem m_177 : Cond.laysFinal "IharaZeta$WalkCounter" "IharaZeta$WalkCounter" "primitiveSigned" "[J" ∈ tbG := tbG_in (List.mem_of_getElem? (i := 177) (by decide +kernel)) rfl
theorem m_179 : Cond.laysFinal "IharaZeta$WalkCounter" "IharaZeta$WalkCounter" "reached" "[J" ∈ tbG := tbG_in (List.mem_of_getElem? (i := 179) (by decide +kernel)) rfl
theorem m_181 : Cond.laysFinal "IharaZeta$WalkCounter" "IharaZeta$WalkCounter" "arrived" "[J" ∈ tbG := tbG_in (List.mem_of_getElem? (i := 181) (by decide +kernel)) rfl
theorem m_184 : Cond.arrayClass FieldType.long ∈ tbG := tbG_in (List.mem_of_getElem? (i := 184) (by decide +kernel)) rfl
theorem m_185 : Cond.classLink "IharaZeta" 49 "IharaZeta$PrimeSearch" ∈ tbG := tbG_in (List.mem_of_getElem? (i := 185) (by decide +kernel)) rfl
theorem m_186 : Cond.instantiable "IharaZeta$PrimeSearch" 2 ∈ tbG := tbG_in (List.mem_of_getElem? (i := 186) (by decide +kernel)) rfl
theorem m_187 : Cond.methodLinkNest "IharaZeta" 51 ⟨"IharaZeta$PrimeSearch","<init>","()V"⟩ "IharaZeta" ∈ lw_tbl := List.mem_of_getElem? (i := 187) (by decide +kernel)
theorem m_188 : Cond.instanceMethod ⟨"IharaZeta$PrimeSearch","<init>","()V"⟩ ∈ tbG := tbG_in (List.mem_of_getElem? (i := 188) (by decide +kernel)) rfl
theorem m_189 : Cond.code ⟨"IharaZeta$PrimeSearch","<init>","()V"⟩ prog_7_method_1_code 1 (none : Option FieldType) ∈ tbG := tbG_in (List.mem_of_getElem? (i := 189) (by decide +kernel)) rfl
theorem m_190 : Cond.methodLink "IharaZeta$PrimeSearch" 3 ⟨"java/lang/Object","<init>","()V"⟩ ∈ tbG := tbG_in (List.mem_of_getElem? (i := 190) (by decide +kernel)) rfl
theorem m_191 : Cond.fieldLink "IharaZeta$PrimeSearch" 9 "IharaZeta$PrimeSearch" "word" "[I" ∈ tbG := tbG_in (List.mem_of_getElem? (i := 191) (by decide +kernel)) rfl
theorem m_192 : Cond.fieldLinkNest "IharaZeta" 189 "IharaZeta$PrimeSearch" "word" "[I" "IharaZeta" ∈ lw_tbl := List.mem_of_getElem? (i := 192) (by decide +kernel)
theorem m_193 : Cond.fieldLink "IharaZeta$PrimeSearch" 15 "IharaZeta$PrimeSearch" "toSkip" "I" ∈ tbG := tbG_in (List.mem_of_getElem? (i := 193) (by decide +kernel)) rfl
theorem m_194 : Cond.laysFinal "IharaZeta$PrimeSearch" "IharaZeta$PrimeSearch" "word" "[I" ∈ tbG := tbG_in (List.mem_of_getElem? (i := 194) (by decide +kernel)) rfl
theorem m_196 : Cond.lays "IharaZeta$PrimeSearch" "IharaZeta$PrimeSearch" "toSkip" "I" ∈ tbG := tbG_in (List.mem_of_getElem? (i := 196) (by decide +kernel)) rfl
theorem m_199 : Cond.classLink "IharaZeta" 56 "IharaZeta$EdgePolynomial" ∈ tbG := tbG_in (List.mem_of_getElem? (i := 199) (by decide +kernel)) rfl
theorem m_200 : Cond.instantiable "IharaZeta$EdgePolynomial" 2 ∈ tbG := tbG_in (List.mem_of_getElem? (i := 200) (by decide +kernel)) rfl
theorem m_201 : Cond.methodLinkNest "IharaZeta" 58 ⟨"IharaZeta$EdgePolynomial","<init>","()V"⟩ "IharaZeta" ∈ lw_tbl := List.mem_of_getElem? (i := 201) (by decide +kernel)
theorem m_202 : Cond.instanceMethod ⟨"IharaZeta$EdgePolynomial","<init>","()V"⟩ ∈ tbG := tbG_in (List.mem_of_getElem? (i := 202) (by decide +kernel)) rfl
theorem m_203 : Cond.code ⟨"IharaZeta$EdgePolynomial","<init>","()V"⟩ prog_2_method_1_code 1 (none : Option FieldType) ∈ tbG := tbG_in (List.mem_of_getElem? (i := 203) (by decide +kernel)) rfl
theorem m_204 : Cond.methodLink "IharaZeta$EdgePolynomial" 3 ⟨"java/lang/Object","<init>","()V"⟩ ∈ tbG := tbG_in (List.mem_of_getElem? (i := 204) (by decide +kernel)) rfl
theorem m_205 : Cond.fieldLink "IharaZeta$EdgePolynomial" 9 "IharaZeta$EdgePolynomial" "coefficients" "[J" ∈ tbG := tbG_in (List.mem_of_getElem? (i := 205) (by decide +kernel)) rfl
theorem m_206 : Cond.fieldLinkNest "IharaZeta" 202 "IharaZeta$EdgePolynomial" "coefficients" "[J" "IharaZeta" ∈ lw_tbl := List.mem_of_getElem? (i := 206) (by decide +kernel)
theorem m_207 : Cond.fieldLink "IharaZeta$EdgePolynomial" 15 "IharaZeta$EdgePolynomial" "work" "[J" ∈ tbG := tbG_in (List.mem_of_getElem? (i := 207) (by decide +kernel)) rfl
theorem m_208 : Cond.laysFinal "IharaZeta$EdgePolynomial" "IharaZeta$EdgePolynomial" "coefficients" "[J" ∈ tbG := tbG_in (List.mem_of_getElem? (i := 208) (by decide +kernel)) rfl
theorem m_210 : Cond.laysFinal "IharaZeta$EdgePolynomial" "IharaZeta$EdgePolynomial" "work" "[J" ∈ tbG := tbG_in (List.mem_of_getElem? (i := 210) (by decide +kernel)) rfl
theorem m_213 : Cond.classLink "IharaZeta" 63 "IharaZeta$VertexPolynomial" ∈ tbG := tbG_in (List.mem_of_getElem? (i := 213) (by decide +kernel)) rfl
theorem m_214 : Cond.instantiable "IharaZeta$VertexPolynomial" 2 ∈ tbG := tbG_in (List.mem_of_getElem? (i := 214) (by decide +kernel)) rfl
theorem m_215 : Cond.methodLinkNest "IharaZeta" 65 ⟨"IharaZeta$VertexPolynomial","<init>","()V"⟩ "IharaZeta" ∈ lw_tbl := List.mem_of_getElem? (i := 215) (by decide +kernel)
theorem m_216 : Cond.instanceMethod ⟨"IharaZeta$VertexPolynomial","<init>","()V"⟩ ∈ tbG := tbG_in (List.mem_of_getElem? (i := 216) (by decide +kernel)) rfl
theorem m_217 : Cond.code ⟨"IharaZeta$VertexPolynomial","<init>","()V"⟩ prog_8_method_1_code 1 (none : Option FieldType) ∈ tbG := tbG_in (List.mem_of_getElem? (i := 217) (by decide +kernel)) rfl
theorem m_218 : Cond.methodLink "IharaZeta$VertexPolynomial" 3 ⟨"java/lang/Object","<init>","()V"⟩ ∈ tbG := tbG_in (List.mem_of_getElem? (i := 218) (by decide +kernel)) rfl
theorem m_219 : Cond.classLink "IharaZeta$VertexPolynomial" 15 "[[J" ∈ tbG := tbG_in (List.mem_of_getElem? (i := 219) (by decide +kernel)) rfl
theorem m_220 : Cond.arrayOver (FieldType.array FieldType.long) ∈ lw_tbl := List.mem_of_getElem? (i := 220) (by decide +kernel)
theorem m_221 : Cond.fieldLink "IharaZeta$VertexPolynomial" 9 "IharaZeta$VertexPolynomial" "coefficients" "[J" ∈ tbG := tbG_in (List.mem_of_getElem? (i := 221) (by decide +kernel)) rfl
theorem m_222 : Cond.fieldLinkNest "IharaZeta" 211 "IharaZeta$VertexPolynomial" "coefficients" "[J" "IharaZeta" ∈ lw_tbl := List.mem_of_getElem? (i := 222) (by decide +kernel)
theorem m_223 : Cond.fieldLink "IharaZeta$VertexPolynomial" 17 "IharaZeta$VertexPolynomial" "minors" "[[J" ∈ tbG := tbG_in (List.mem_of_getElem? (i := 223) (by decide +kernel)) rfl
theorem m_224 : Cond.laysFinal "IharaZeta$VertexPolynomial" "IharaZeta$VertexPolynomial" "coefficients" "[J" ∈ tbG := tbG_in (List.mem_of_getElem? (i := 224) (by decide +kernel)) rfl
theorem m_226 : Cond.laysFinal "IharaZeta$VertexPolynomial" "IharaZeta$VertexPolynomial" "minors" "[[J" ∈ tbG := tbG_in (List.mem_of_getElem? (i := 226) (by decide +kernel)) rfl
theorem m_229 : Cond.fieldLink "IharaZeta" 12 "IharaZeta" "graph" "LIharaZeta$Graph;" ∈ tbG := tbG_in (List.mem_of_getElem? (i := 229) (by decide +kernel)) rfl
theorem m_230 : Cond.fieldLink "IharaZeta" 18 "IharaZeta" "draft" "LIharaZeta$Graph;" ∈ tbG := tbG_in (List.mem_of_getElem? (i := 230) (by decide +kernel)) rfl
theorem m_231 : Cond.fieldLink "IharaZeta" 24 "IharaZeta" "history" "LIharaZeta$History;" ∈ tbG := tbG_in (List.mem_of_getElem? (i := 231) (by decide +kernel)) rfl
theorem m_232 : Cond.fieldLink "IharaZeta" 31 "IharaZeta" "text" "LIharaZeta$EdgeText;" ∈ tbG := tbG_in (List.mem_of_getElem? (i := 232) (by decide +kernel)) rfl
theorem m_233 : Cond.fieldLink "IharaZeta" 38 "IharaZeta" "grouping" "LIharaZeta$Grouping;" ∈ tbG := tbG_in (List.mem_of_getElem? (i := 233) (by decide +kernel)) rfl
theorem m_234 : Cond.fieldLink "IharaZeta" 45 "IharaZeta" "counter" "LIharaZeta$WalkCounter;" ∈ tbG := tbG_in (List.mem_of_getElem? (i := 234) (by decide +kernel)) rfl
theorem m_235 : Cond.fieldLink "IharaZeta" 52 "IharaZeta" "search" "LIharaZeta$PrimeSearch;" ∈ tbG := tbG_in (List.mem_of_getElem? (i := 235) (by decide +kernel)) rfl
theorem m_236 : Cond.fieldLink "IharaZeta" 59 "IharaZeta" "edgePolynomial" "LIharaZeta$EdgePolynomial;" ∈ tbG := tbG_in (List.mem_of_getElem? (i := 236) (by decide +kernel)) rfl
theorem m_237 : Cond.fieldLink "IharaZeta" 66 "IharaZeta" "vertexPolynomial" "LIharaZeta$VertexPolynomial;" ∈ tbG := tbG_in (List.mem_of_getElem? (i := 237) (by decide +kernel)) rfl
theorem m_238 : Cond.laysFinal "IharaZeta" "IharaZeta" "graph" "LIharaZeta$Graph;" ∈ tbG := tbG_in (List.mem_of_getElem? (i := 238) (by decide +kernel)) rfl
theorem m_240 : Cond.laysFinal "IharaZeta" "IharaZeta" "draft" "LIharaZeta$Graph;" ∈ tbG := tbG_in (List.mem_of_getElem? (i := 240) (by decide +kernel)) rfl
theorem m_242 : Cond.laysFinal "IharaZeta" "IharaZeta" "history" "LIharaZeta$History;" ∈ tbG := tbG_in (List.mem_of_getElem? (i := 242) (by decide +kernel)) rfl
theorem m_244 : Cond.laysFinal "IharaZeta" "IharaZeta" "text" "LIharaZeta$EdgeText;" ∈ tbG := tbG_in (List.mem_of_getElem? (i := 244) (by decide +kernel)) rfl
theorem m_246 : Cond.laysFinal "IharaZeta" "IharaZeta" "grouping" "LIharaZeta$Grouping;" ∈ tbG := tbG_in (List.mem_of_getElem? (i := 246) (by decide +kernel)) rfl
theorem m_248 : Cond.laysFinal "IharaZeta" "IharaZeta" "counter" "LIharaZeta$WalkCounter;" ∈ tbG := tbG_in (List.mem_of_getElem? (i := 248) (by decide +kernel)) rfl
theorem m_250 : Cond.laysFinal "IharaZeta" "IharaZeta" "search" "LIharaZeta$PrimeSearch;" ∈ tbG := tbG_in (List.mem_of_getElem? (i := 250) (by decide +kernel)) rfl
theorem m_252 : Cond.laysFinal "IharaZeta" "IharaZeta" "edgePolynomial" "LIharaZeta$EdgePolynomial;" ∈ tbG := tbG_in (List.mem_of_getElem? (i := 252) (by decide +kernel)) rfl
theorem m_254 : Cond.laysFinal "IharaZeta" "IharaZeta" "vertexPolynomial" "LIharaZeta$VertexPolynomial;" ∈ tbG := tbG_in (List.mem_of_getElem? (i := 254) (by decide +kernel)) rfl
theorem m_257 : Cond.methodLink "IharaZetaLaw" 13 ⟨"IharaZeta","configure","(I)I"⟩ ∈ tbG := tbG_in (List.mem_of_getElem? (i := 257) (by decide +kernel)) rfl
theorem m_258 : Cond.instanceMethod ⟨"IharaZeta","configure","(I)I"⟩ ∈ tbG := tbG_in (List.mem_of_getElem? (i := 258) (by decide +kernel)) rfl
theorem m_259 : Cond.selects "IharaZeta" ⟨"IharaZeta","configure","(I)I"⟩ ⟨"IharaZeta","configure","(I)I"⟩ ∈ tbG := tbG_in (List.mem_of_getElem? (i := 259) (by decide +kernel)) rfl
theorem m_260 : Cond.code ⟨"IharaZeta","configure","(I)I"⟩ prog_1_method_2_code 3 (some FieldType.int) ∈ tbG := tbG_in (List.mem_of_getElem? (i := 260) (by decide +kernel)) rfl
theorem m_261 : Cond.methodLink "IharaZeta" 74 ⟨"IharaZeta$History","save","(LIharaZeta$Graph;)V"⟩ ∈ tbG := tbG_in (List.mem_of_getElem? (i := 261) (by decide +kernel)) rfl
theorem m_262 : Cond.instanceMethod ⟨"IharaZeta$History","save","(LIharaZeta$Graph;)V"⟩ ∈ tbG := tbG_in (List.mem_of_getElem? (i := 262) (by decide +kernel)) rfl
theorem m_263 : Cond.selects "IharaZeta$History" ⟨"IharaZeta$History","save","(LIharaZeta$Graph;)V"⟩ ⟨"IharaZeta$History","save","(LIharaZeta$Graph;)V"⟩ ∈ tbG := tbG_in (List.mem_of_getElem? (i := 263) (by decide +kernel)) rfl
theorem m_264 : Cond.code ⟨"IharaZeta$History","save","(LIharaZeta$Graph;)V"⟩ prog_6_method_2_code 2 (none : Option FieldType) ∈ tbG := tbG_in (List.mem_of_getElem? (i := 264) (by decide +kernel)) rfl
theorem m_265 : Cond.methodLink "IharaZeta$History" 22 ⟨"IharaZeta$History","discardOldest","()V"⟩ ∈ tbG := tbG_in (List.mem_of_getElem? (i := 265) (by decide +kernel)) rfl
theorem m_267 : Cond.instanceMethod ⟨"IharaZeta$History","discardOldest","()V"⟩ ∈ tbG := tbG_in (List.mem_of_getElem? (i := 267) (by decide +kernel)) rfl
theorem m_268 : Cond.code ⟨"IharaZeta$History","discardOldest","()V"⟩ prog_6_method_4_code 3 (none : Option FieldType) ∈ tbG := tbG_in (List.mem_of_getElem? (i := 268) (by decide +kernel)) rfl
theorem m_269 : Cond.methodLink "IharaZeta$History" 25 ⟨"IharaZeta$Graph","copyFrom","(LIharaZeta$Graph;)V"⟩ ∈ tbG := tbG_in (List.mem_of_getElem? (i := 269) (by decide +kernel)) rfl
theorem m_270 : Cond.instanceMethod ⟨"IharaZeta$Graph","copyFrom","(LIharaZeta$Graph;)V"⟩ ∈ tbG := tbG_in (List.mem_of_getElem? (i := 270) (by decide +kernel)) rfl
theorem m_271 : Cond.selects "IharaZeta$Graph" ⟨"IharaZeta$Graph","copyFrom","(LIharaZeta$Graph;)V"⟩ ⟨"IharaZeta$Graph","copyFrom","(LIharaZeta$Graph;)V"⟩ ∈ tbG := tbG_in (List.mem_of_getElem? (i := 271) (by decide +kernel)) rfl
theorem m_272 : Cond.code ⟨"IharaZeta$Graph","copyFrom","(LIharaZeta$Graph;)V"⟩ prog_4_method_3_code 3 (none : Option FieldType) ∈ tbG := tbG_in (List.mem_of_getElem? (i := 272) (by decide +kernel)) rfl
theorem m_273 : Cond.methodLink "IharaZeta" 78 ⟨"IharaZeta$Graph","makeEmpty","(I)V"⟩ ∈ tbG := tbG_in (List.mem_of_getElem? (i := 273) (by decide +kernel)) rfl
theorem m_274 : Cond.instanceMethod ⟨"IharaZeta$Graph","makeEmpty","(I)V"⟩ ∈ tbG := tbG_in (List.mem_of_getElem? (i := 274) (by decide +kernel)) rfl
theorem m_275 : Cond.selects "IharaZeta$Graph" ⟨"IharaZeta$Graph","makeEmpty","(I)V"⟩ ⟨"IharaZeta$Graph","makeEmpty","(I)V"⟩ ∈ tbG := tbG_in (List.mem_of_getElem? (i := 275) (by decide +kernel)) rfl
theorem m_276 : Cond.code ⟨"IharaZeta$Graph","makeEmpty","(I)V"⟩ prog_4_method_2_code 2 (none : Option FieldType) ∈ tbG := tbG_in (List.mem_of_getElem? (i := 276) (by decide +kernel)) rfl
theorem m_277 : Cond.methodLink "IharaZetaLaw" 18 ⟨"IharaZeta","addEdge","(III)I"⟩ ∈ tbG := tbG_in (List.mem_of_getElem? (i := 277) (by decide +kernel)) rfl
theorem m_278 : Cond.instanceMethod ⟨"IharaZeta","addEdge","(III)I"⟩ ∈ tbG := tbG_in (List.mem_of_getElem? (i := 278) (by decide +kernel)) rfl
theorem m_279 : Cond.selects "IharaZeta" ⟨"IharaZeta","addEdge","(III)I"⟩ ⟨"IharaZeta","addEdge","(III)I"⟩ ∈ tbG := tbG_in (List.mem_of_getElem? (i := 279) (by decide +kernel)) rfl
theorem m_280 : Cond.code ⟨"IharaZeta","addEdge","(III)I"⟩ prog_1_method_3_code 4 (some FieldType.int) ∈ tbG := tbG_in (List.mem_of_getElem? (i := 280) (by decide +kernel)) rfl
theorem m_281 : Cond.methodLink "IharaZeta" 82 ⟨"IharaZeta$Graph","hasVertex","(I)Z"⟩ ∈ tbG := tbG_in (List.mem_of_getElem? (i := 281) (by decide +kernel)) rfl
theorem m_282 : Cond.instanceMethod ⟨"IharaZeta$Graph","hasVertex","(I)Z"⟩ ∈ tbG := tbG_in (List.mem_of_getElem? (i := 282) (by decide +kernel)) rfl
theorem m_283 : Cond.selects "IharaZeta$Graph" ⟨"IharaZeta$Graph","hasVertex","(I)Z"⟩ ⟨"IharaZeta$Graph","hasVertex","(I)Z"⟩ ∈ tbG := tbG_in (List.mem_of_getElem? (i := 283) (by decide +kernel)) rfl
theorem m_284 : Cond.code ⟨"IharaZeta$Graph","hasVertex","(I)Z"⟩ prog_4_method_5_code 2 (some FieldType.boolean) ∈ tbG := tbG_in (List.mem_of_getElem? (i := 284) (by decide +kernel)) rfl
theorem m_285 : Cond.methodLink "IharaZeta" 86 ⟨"IharaZeta$Graph","isFull","()Z"⟩ ∈ tbG := tbG_in (List.mem_of_getElem? (i := 285) (by decide +kernel)) rfl
theorem m_286 : Cond.instanceMethod ⟨"IharaZeta$Graph","isFull","()Z"⟩ ∈ tbG := tbG_in (List.mem_of_getElem? (i := 286) (by decide +kernel)) rfl
theorem m_287 : Cond.selects "IharaZeta$Graph" ⟨"IharaZeta$Graph","isFull","()Z"⟩ ⟨"IharaZeta$Graph","isFull","()Z"⟩ ∈ tbG := tbG_in (List.mem_of_getElem? (i := 287) (by decide +kernel)) rfl
theorem m_288 : Cond.code ⟨"IharaZeta$Graph","isFull","()Z"⟩ prog_4_method_4_code 1 (some FieldType.boolean) ∈ tbG := tbG_in (List.mem_of_getElem? (i := 288) (by decide +kernel)) rfl
theorem m_289 : Cond.methodLink "IharaZeta" 90 ⟨"IharaZeta$Graph","append","(III)V"⟩ ∈ tbG := tbG_in (List.mem_of_getElem? (i := 289) (by decide +kernel)) rfl
theorem m_290 : Cond.instanceMethod ⟨"IharaZeta$Graph","append","(III)V"⟩ ∈ tbG := tbG_in (List.mem_of_getElem? (i := 290) (by decide +kernel)) rfl
theorem m_291 : Cond.selects "IharaZeta$Graph" ⟨"IharaZeta$Graph","append","(III)V"⟩ ⟨"IharaZeta$Graph","append","(III)V"⟩ ∈ tbG := tbG_in (List.mem_of_getElem? (i := 291) (by decide +kernel)) rfl
theorem m_292 : Cond.code ⟨"IharaZeta$Graph","append","(III)V"⟩ prog_4_method_8_code 4 (none : Option FieldType) ∈ tbG := tbG_in (List.mem_of_getElem? (i := 292) (by decide +kernel)) rfl
theorem m_293 : Cond.methodLink "IharaZeta$Graph" 28 ⟨"IharaZeta$Graph","isFull","()Z"⟩ ∈ tbG := tbG_in (List.mem_of_getElem? (i := 293) (by decide +kernel)) rfl
theorem m_294 : Cond.methodLink "IharaZetaLaw" 23 ⟨"IharaZeta","removeEdge","(I)I"⟩ ∈ tbG := tbG_in (List.mem_of_getElem? (i := 294) (by decide +kernel)) rfl
theorem m_295 : Cond.instanceMethod ⟨"IharaZeta","removeEdge","(I)I"⟩ ∈ tbG := tbG_in (List.mem_of_getElem? (i := 295) (by decide +kernel)) rfl
theorem m_296 : Cond.selects "IharaZeta" ⟨"IharaZeta","removeEdge","(I)I"⟩ ⟨"IharaZeta","removeEdge","(I)I"⟩ ∈ tbG := tbG_in (List.mem_of_getElem? (i := 296) (by decide +kernel)) rfl
theorem m_297 : Cond.code ⟨"IharaZeta","removeEdge","(I)I"⟩ prog_1_method_4_code 2 (some FieldType.int) ∈ tbG := tbG_in (List.mem_of_getElem? (i := 297) (by decide +kernel)) rfl
theorem m_298 : Cond.methodLink "IharaZeta" 97 ⟨"IharaZeta$Graph","hasEdge","(I)Z"⟩ ∈ tbG := tbG_in (List.mem_of_getElem? (i := 298) (by decide +kernel)) rfl
theorem m_299 : Cond.instanceMethod ⟨"IharaZeta$Graph","hasEdge","(I)Z"⟩ ∈ tbG := tbG_in (List.mem_of_getElem? (i := 299) (by decide +kernel)) rfl
theorem m_300 : Cond.selects "IharaZeta$Graph" ⟨"IharaZeta$Graph","hasEdge","(I)Z"⟩ ⟨"IharaZeta$Graph","hasEdge","(I)Z"⟩ ∈ tbG := tbG_in (List.mem_of_getElem? (i := 300) (by decide +kernel)) rfl
theorem m_301 : Cond.code ⟨"IharaZeta$Graph","hasEdge","(I)Z"⟩ prog_4_method_6_code 2 (some FieldType.boolean) ∈ tbG := tbG_in (List.mem_of_getElem? (i := 301) (by decide +kernel)) rfl
theorem m_302 : Cond.methodLink "IharaZeta" 100 ⟨"IharaZeta$Graph","delete","(I)V"⟩ ∈ tbG := tbG_in (List.mem_of_getElem? (i := 302) (by decide +kernel)) rfl
theorem m_303 : Cond.instanceMethod ⟨"IharaZeta$Graph","delete","(I)V"⟩ ∈ tbG := tbG_in (List.mem_of_getElem? (i := 303) (by decide +kernel)) rfl
theorem m_304 : Cond.selects "IharaZeta$Graph" ⟨"IharaZeta$Graph","delete","(I)V"⟩ ⟨"IharaZeta$Graph","delete","(I)V"⟩ ∈ tbG := tbG_in (List.mem_of_getElem? (i := 304) (by decide +kernel)) rfl
theorem m_305 : Cond.code ⟨"IharaZeta$Graph","delete","(I)V"⟩ prog_4_method_9_code 3 (none : Option FieldType) ∈ tbG := tbG_in (List.mem_of_getElem? (i := 305) (by decide +kernel)) rfl
theorem m_306 : Cond.methodLink "IharaZetaLaw" 27 ⟨"IharaZeta","flipSign","(I)I"⟩ ∈ tbG := tbG_in (List.mem_of_getElem? (i := 306) (by decide +kernel)) rfl
theorem m_307 : Cond.instanceMethod ⟨"IharaZeta","flipSign","(I)I"⟩ ∈ tbG := tbG_in (List.mem_of_getElem? (i := 307) (by decide +kernel)) rfl
theorem m_308 : Cond.selects "IharaZeta" ⟨"IharaZeta","flipSign","(I)I"⟩ ⟨"IharaZeta","flipSign","(I)I"⟩ ∈ tbG := tbG_in (List.mem_of_getElem? (i := 308) (by decide +kernel)) rfl
theorem m_309 : Cond.code ⟨"IharaZeta","flipSign","(I)I"⟩ prog_1_method_5_code 2 (some FieldType.int) ∈ tbG := tbG_in (List.mem_of_getElem? (i := 309) (by decide +kernel)) rfl
theorem m_310 : Cond.methodLink "IharaZetaLaw" 31 ⟨"IharaZeta","appendCharacter","(I)I"⟩ ∈ tbG := tbG_in (List.mem_of_getElem? (i := 310) (by decide +kernel)) rfl
theorem m_311 : Cond.instanceMethod ⟨"IharaZeta","appendCharacter","(I)I"⟩ ∈ tbG := tbG_in (List.mem_of_getElem? (i := 311) (by decide +kernel)) rfl
theorem m_312 : Cond.selects "IharaZeta" ⟨"IharaZeta","appendCharacter","(I)I"⟩ ⟨"IharaZeta","appendCharacter","(I)I"⟩ ∈ tbG := tbG_in (List.mem_of_getElem? (i := 312) (by decide +kernel)) rfl
theorem m_313 : Cond.code ⟨"IharaZeta","appendCharacter","(I)I"⟩ prog_1_method_6_code 2 (some FieldType.int) ∈ tbG := tbG_in (List.mem_of_getElem? (i := 313) (by decide +kernel)) rfl
theorem m_314 : Cond.methodLink "IharaZeta" 110 ⟨"IharaZeta$EdgeText","append","(I)V"⟩ ∈ tbG := tbG_in (List.mem_of_getElem? (i := 314) (by decide +kernel)) rfl
theorem m_315 : Cond.instanceMethod ⟨"IharaZeta$EdgeText","append","(I)V"⟩ ∈ tbG := tbG_in (List.mem_of_getElem? (i := 315) (by decide +kernel)) rfl
theorem m_316 : Cond.selects "IharaZeta$EdgeText" ⟨"IharaZeta$EdgeText","append","(I)V"⟩ ⟨"IharaZeta$EdgeText","append","(I)V"⟩ ∈ tbG := tbG_in (List.mem_of_getElem? (i := 316) (by decide +kernel)) rfl
theorem m_317 : Cond.code ⟨"IharaZeta$EdgeText","append","(I)V"⟩ prog_3_method_2_code 2 (none : Option FieldType) ∈ tbG := tbG_in (List.mem_of_getElem? (i := 317) (by decide +kernel)) rfl
theorem m_318 : Cond.methodLink "IharaZetaLaw" 35 ⟨"IharaZeta","clearText","()I"⟩ ∈ tbG := tbG_in (List.mem_of_getElem? (i := 318) (by decide +kernel)) rfl
theorem m_319 : Cond.instanceMethod ⟨"IharaZeta","clearText","()I"⟩ ∈ tbG := tbG_in (List.mem_of_getElem? (i := 319) (by decide +kernel)) rfl
theorem m_320 : Cond.selects "IharaZeta" ⟨"IharaZeta","clearText","()I"⟩ ⟨"IharaZeta","clearText","()I"⟩ ∈ tbG := tbG_in (List.mem_of_getElem? (i := 320) (by decide +kernel)) rfl
theorem m_321 : Cond.code ⟨"IharaZeta","clearText","()I"⟩ prog_1_method_7_code 2 (some FieldType.int) ∈ tbG := tbG_in (List.mem_of_getElem? (i := 321) (by decide +kernel)) rfl
theorem m_322 : Cond.methodLink "IharaZetaLaw" 40 ⟨"IharaZeta","loadGraph","()I"⟩ ∈ tbG := tbG_in (List.mem_of_getElem? (i := 322) (by decide +kernel)) rfl
theorem m_323 : Cond.instanceMethod ⟨"IharaZeta","loadGraph","()I"⟩ ∈ tbG := tbG_in (List.mem_of_getElem? (i := 323) (by decide +kernel)) rfl
theorem m_324 : Cond.selects "IharaZeta" ⟨"IharaZeta","loadGraph","()I"⟩ ⟨"IharaZeta","loadGraph","()I"⟩ ∈ tbG := tbG_in (List.mem_of_getElem? (i := 324) (by decide +kernel)) rfl
theorem m_325 : Cond.code ⟨"IharaZeta","loadGraph","()I"⟩ prog_1_method_8_code 2 (some FieldType.int) ∈ tbG := tbG_in (List.mem_of_getElem? (i := 325) (by decide +kernel)) rfl
theorem m_326 : Cond.methodLink "IharaZeta" 112 ⟨"IharaZeta$EdgeText","readInto","(LIharaZeta$Graph;)I"⟩ ∈ tbG := tbG_in (List.mem_of_getElem? (i := 326) (by decide +kernel)) rfl
theorem m_327 : Cond.instanceMethod ⟨"IharaZeta$EdgeText","readInto","(LIharaZeta$Graph;)I"⟩ ∈ tbG := tbG_in (List.mem_of_getElem? (i := 327) (by decide +kernel)) rfl
theorem m_328 : Cond.selects "IharaZeta$EdgeText" ⟨"IharaZeta$EdgeText","readInto","(LIharaZeta$Graph;)I"⟩ ⟨"IharaZeta$EdgeText","readInto","(LIharaZeta$Graph;)I"⟩ ∈ tbG := tbG_in (List.mem_of_getElem? (i := 328) (by decide +kernel)) rfl
theorem m_329 : Cond.code ⟨"IharaZeta$EdgeText","readInto","(LIharaZeta$Graph;)I"⟩ prog_3_method_3_code 4 (some FieldType.int) ∈ tbG := tbG_in (List.mem_of_getElem? (i := 329) (by decide +kernel)) rfl
theorem m_330 : Cond.methodLink "IharaZeta$EdgeText" 22 ⟨"IharaZeta$EdgeText","accept","(ILIharaZeta$Graph;)Z"⟩ ∈ tbG := tbG_in (List.mem_of_getElem? (i := 330) (by decide +kernel)) rfl
theorem m_332 : Cond.instanceMethod ⟨"IharaZeta$EdgeText","accept","(ILIharaZeta$Graph;)Z"⟩ ∈ tbG := tbG_in (List.mem_of_getElem? (i := 332) (by decide +kernel)) rfl
theorem m_333 : Cond.code ⟨"IharaZeta$EdgeText","accept","(ILIharaZeta$Graph;)Z"⟩ prog_3_method_4_code 3 (some FieldType.boolean) ∈ tbG := tbG_in (List.mem_of_getElem? (i := 333) (by decide +kernel)) rfl
theorem m_334 : Cond.methodLink "IharaZeta$EdgeText" 26 ⟨"IharaZeta$EdgeText","acceptFirst","(ILIharaZeta$Graph;)Z"⟩ ∈ tbG := tbG_in (List.mem_of_getElem? (i := 334) (by decide +kernel)) rfl
theorem m_336 : Cond.instanceMethod ⟨"IharaZeta$EdgeText","acceptFirst","(ILIharaZeta$Graph;)Z"⟩ ∈ tbG := tbG_in (List.mem_of_getElem? (i := 336) (by decide +kernel)) rfl
theorem m_337 : Cond.code ⟨"IharaZeta$EdgeText","acceptFirst","(ILIharaZeta$Graph;)Z"⟩ prog_3_method_5_code 3 (some FieldType.boolean) ∈ tbG := tbG_in (List.mem_of_getElem? (i := 337) (by decide +kernel)) rfl
theorem m_338 : Cond.methodLink "IharaZeta$EdgeText" 39 ⟨"IharaZeta$Graph","isFull","()Z"⟩ ∈ tbG := tbG_in (List.mem_of_getElem? (i := 338) (by decide +kernel)) rfl
theorem m_339 : Cond.methodLink "IharaZeta$EdgeText" 45 ⟨"IharaZeta$Graph","hasVertex","(I)Z"⟩ ∈ tbG := tbG_in (List.mem_of_getElem? (i := 339) (by decide +kernel)) rfl
theorem m_340 : Cond.methodLink "IharaZeta$EdgeText" 29 ⟨"IharaZeta$EdgeText","acceptSign","(I)Z"⟩ ∈ tbG := tbG_in (List.mem_of_getElem? (i := 340) (by decide +kernel)) rfl
theorem m_342 : Cond.instanceMethod ⟨"IharaZeta$EdgeText","acceptSign","(I)Z"⟩ ∈ tbG := tbG_in (List.mem_of_getElem? (i := 342) (by decide +kernel)) rfl
theorem m_343 : Cond.code ⟨"IharaZeta$EdgeText","acceptSign","(I)Z"⟩ prog_3_method_6_code 2 (some FieldType.boolean) ∈ tbG := tbG_in (List.mem_of_getElem? (i := 343) (by decide +kernel)) rfl
theorem m_344 : Cond.methodLink "IharaZeta$EdgeText" 33 ⟨"IharaZeta$EdgeText","acceptSecond","(ILIharaZeta$Graph;)Z"⟩ ∈ tbG := tbG_in (List.mem_of_getElem? (i := 344) (by decide +kernel)) rfl
theorem m_346 : Cond.instanceMethod ⟨"IharaZeta$EdgeText","acceptSecond","(ILIharaZeta$Graph;)Z"⟩ ∈ tbG := tbG_in (List.mem_of_getElem? (i := 346) (by decide +kernel)) rfl
theorem m_347 : Cond.code ⟨"IharaZeta$EdgeText","acceptSecond","(ILIharaZeta$Graph;)Z"⟩ prog_3_method_7_code 3 (some FieldType.boolean) ∈ tbG := tbG_in (List.mem_of_getElem? (i := 347) (by decide +kernel)) rfl
theorem m_348 : Cond.methodLink "IharaZeta$EdgeText" 36 ⟨"IharaZeta$EdgeText","acceptEnd","(ILIharaZeta$Graph;)Z"⟩ ∈ tbG := tbG_in (List.mem_of_getElem? (i := 348) (by decide +kernel)) rfl
theorem m_350 : Cond.instanceMethod ⟨"IharaZeta$EdgeText","acceptEnd","(ILIharaZeta$Graph;)Z"⟩ ∈ tbG := tbG_in (List.mem_of_getElem? (i := 350) (by decide +kernel)) rfl
theorem m_351 : Cond.code ⟨"IharaZeta$EdgeText","acceptEnd","(ILIharaZeta$Graph;)Z"⟩ prog_3_method_8_code 3 (some FieldType.boolean) ∈ tbG := tbG_in (List.mem_of_getElem? (i := 351) (by decide +kernel)) rfl
theorem m_352 : Cond.methodLink "IharaZeta$EdgeText" 57 ⟨"IharaZeta$Graph","append","(III)V"⟩ ∈ tbG := tbG_in (List.mem_of_getElem? (i := 352) (by decide +kernel)) rfl
theorem m_353 : Cond.methodLink "IharaZeta" 116 ⟨"IharaZeta$Graph","copyFrom","(LIharaZeta$Graph;)V"⟩ ∈ tbG := tbG_in (List.mem_of_getElem? (i := 353) (by decide +kernel)) rfl
theorem m_354 : Cond.methodLink "IharaZetaLaw" 44 ⟨"IharaZeta","undo","()I"⟩ ∈ tbG := tbG_in (List.mem_of_getElem? (i := 354) (by decide +kernel)) rfl
theorem m_355 : Cond.instanceMethod ⟨"IharaZeta","undo","()I"⟩ ∈ tbG := tbG_in (List.mem_of_getElem? (i := 355) (by decide +kernel)) rfl
theorem m_356 : Cond.selects "IharaZeta" ⟨"IharaZeta","undo","()I"⟩ ⟨"IharaZeta","undo","()I"⟩ ∈ tbG := tbG_in (List.mem_of_getElem? (i := 356) (by decide +kernel)) rfl
theorem m_357 : Cond.code ⟨"IharaZeta","undo","()I"⟩ prog_1_method_9_code 1 (some FieldType.int) ∈ tbG := tbG_in (List.mem_of_getElem? (i := 357) (by decide +kernel)) rfl
theorem m_358 : Cond.methodLink "IharaZeta" 122 ⟨"IharaZeta$History","restore","(LIharaZeta$Graph;)V"⟩ ∈ tbG := tbG_in (List.mem_of_getElem? (i := 358) (by decide +kernel)) rfl
theorem m_359 : Cond.instanceMethod ⟨"IharaZeta$History","restore","(LIharaZeta$Graph;)V"⟩ ∈ tbG := tbG_in (List.mem_of_getElem? (i := 359) (by decide +kernel)) rfl
theorem m_360 : Cond.selects "IharaZeta$History" ⟨"IharaZeta$History","restore","(LIharaZeta$Graph;)V"⟩ ⟨"IharaZeta$History","restore","(LIharaZeta$Graph;)V"⟩ ∈ tbG := tbG_in (List.mem_of_getElem? (i := 360) (by decide +kernel)) rfl
theorem m_361 : Cond.code ⟨"IharaZeta$History","restore","(LIharaZeta$Graph;)V"⟩ prog_6_method_3_code 2 (none : Option FieldType) ∈ tbG := tbG_in (List.mem_of_getElem? (i := 361) (by decide +kernel)) rfl
theorem m_362 : Cond.methodLink "IharaZetaLaw" 48 ⟨"IharaZeta","vertexCount","()I"⟩ ∈ tbG := tbG_in (List.mem_of_getElem? (i := 362) (by decide +kernel)) rfl
theorem m_363 : Cond.instanceMethod ⟨"IharaZeta","vertexCount","()I"⟩ ∈ tbG := tbG_in (List.mem_of_getElem? (i := 363) (by decide +kernel)) rfl
theorem m_364 : Cond.selects "IharaZeta" ⟨"IharaZeta","vertexCount","()I"⟩ ⟨"IharaZeta","vertexCount","()I"⟩ ∈ tbG := tbG_in (List.mem_of_getElem? (i := 364) (by decide +kernel)) rfl
theorem m_365 : Cond.code ⟨"IharaZeta","vertexCount","()I"⟩ prog_1_method_10_code 1 (some FieldType.int) ∈ tbG := tbG_in (List.mem_of_getElem? (i := 365) (by decide +kernel)) rfl
theorem m_366 : Cond.methodLink "IharaZetaLaw" 52 ⟨"IharaZeta","edgeCount","()I"⟩ ∈ tbG := tbG_in (List.mem_of_getElem? (i := 366) (by decide +kernel)) rfl
theorem m_367 : Cond.instanceMethod ⟨"IharaZeta","edgeCount","()I"⟩ ∈ tbG := tbG_in (List.mem_of_getElem? (i := 367) (by decide +kernel)) rfl
theorem m_368 : Cond.selects "IharaZeta" ⟨"IharaZeta","edgeCount","()I"⟩ ⟨"IharaZeta","edgeCount","()I"⟩ ∈ tbG := tbG_in (List.mem_of_getElem? (i := 368) (by decide +kernel)) rfl
theorem m_369 : Cond.code ⟨"IharaZeta","edgeCount","()I"⟩ prog_1_method_11_code 1 (some FieldType.int) ∈ tbG := tbG_in (List.mem_of_getElem? (i := 369) (by decide +kernel)) rfl
theorem m_370 : Cond.methodLink "IharaZetaLaw" 56 ⟨"IharaZeta","headOf","(I)I"⟩ ∈ tbG := tbG_in (List.mem_of_getElem? (i := 370) (by decide +kernel)) rfl
theorem m_371 : Cond.instanceMethod ⟨"IharaZeta","headOf","(I)I"⟩ ∈ tbG := tbG_in (List.mem_of_getElem? (i := 371) (by decide +kernel)) rfl
theorem m_372 : Cond.selects "IharaZeta" ⟨"IharaZeta","headOf","(I)I"⟩ ⟨"IharaZeta","headOf","(I)I"⟩ ∈ tbG := tbG_in (List.mem_of_getElem? (i := 372) (by decide +kernel)) rfl
theorem m_373 : Cond.code ⟨"IharaZeta","headOf","(I)I"⟩ prog_1_method_12_code 2 (some FieldType.int) ∈ tbG := tbG_in (List.mem_of_getElem? (i := 373) (by decide +kernel)) rfl
theorem m_374 : Cond.methodLink "IharaZeta" 125 ⟨"IharaZeta$Graph","hasDirected","(I)Z"⟩ ∈ tbG := tbG_in (List.mem_of_getElem? (i := 374) (by decide +kernel)) rfl
theorem m_375 : Cond.instanceMethod ⟨"IharaZeta$Graph","hasDirected","(I)Z"⟩ ∈ tbG := tbG_in (List.mem_of_getElem? (i := 375) (by decide +kernel)) rfl
theorem m_376 : Cond.selects "IharaZeta$Graph" ⟨"IharaZeta$Graph","hasDirected","(I)Z"⟩ ⟨"IharaZeta$Graph","hasDirected","(I)Z"⟩ ∈ tbG := tbG_in (List.mem_of_getElem? (i := 376) (by decide +kernel)) rfl
theorem m_377 : Cond.code ⟨"IharaZeta$Graph","hasDirected","(I)Z"⟩ prog_4_method_7_code 2 (some FieldType.boolean) ∈ tbG := tbG_in (List.mem_of_getElem? (i := 377) (by decide +kernel)) rfl
theorem m_378 : Cond.methodLink "IharaZeta" 128 ⟨"IharaZeta$Graph","endOf","(I)I"⟩ ∈ tbG := tbG_in (List.mem_of_getElem? (i := 378) (by decide +kernel)) rfl
theorem m_379 : Cond.instanceMethod ⟨"IharaZeta$Graph","endOf","(I)I"⟩ ∈ tbG := tbG_in (List.mem_of_getElem? (i := 379) (by decide +kernel)) rfl
theorem m_380 : Cond.selects "IharaZeta$Graph" ⟨"IharaZeta$Graph","endOf","(I)I"⟩ ⟨"IharaZeta$Graph","endOf","(I)I"⟩ ∈ tbG := tbG_in (List.mem_of_getElem? (i := 380) (by decide +kernel)) rfl
theorem m_381 : Cond.code ⟨"IharaZeta$Graph","endOf","(I)I"⟩ prog_4_method_11_code 2 (some FieldType.int) ∈ tbG := tbG_in (List.mem_of_getElem? (i := 381) (by decide +kernel)) rfl
theorem m_382 : Cond.methodLink "IharaZetaLaw" 60 ⟨"IharaZeta","follows","(II)I"⟩ ∈ tbG := tbG_in (List.mem_of_getElem? (i := 382) (by decide +kernel)) rfl
theorem m_383 : Cond.instanceMethod ⟨"IharaZeta","follows","(II)I"⟩ ∈ tbG := tbG_in (List.mem_of_getElem? (i := 383) (by decide +kernel)) rfl
theorem m_384 : Cond.selects "IharaZeta" ⟨"IharaZeta","follows","(II)I"⟩ ⟨"IharaZeta","follows","(II)I"⟩ ∈ tbG := tbG_in (List.mem_of_getElem? (i := 384) (by decide +kernel)) rfl
theorem m_385 : Cond.code ⟨"IharaZeta","follows","(II)I"⟩ prog_1_method_13_code 3 (some FieldType.int) ∈ tbG := tbG_in (List.mem_of_getElem? (i := 385) (by decide +kernel)) rfl
theorem m_386 : Cond.methodLink "IharaZeta" 132 ⟨"IharaZeta$Graph","leadsOn","(II)Z"⟩ ∈ tbG := tbG_in (List.mem_of_getElem? (i := 386) (by decide +kernel)) rfl
theorem m_387 : Cond.instanceMethod ⟨"IharaZeta$Graph","leadsOn","(II)Z"⟩ ∈ tbG := tbG_in (List.mem_of_getElem? (i := 387) (by decide +kernel)) rfl
theorem m_388 : Cond.selects "IharaZeta$Graph" ⟨"IharaZeta$Graph","leadsOn","(II)Z"⟩ ⟨"IharaZeta$Graph","leadsOn","(II)Z"⟩ ∈ tbG := tbG_in (List.mem_of_getElem? (i := 388) (by decide +kernel)) rfl
theorem m_389 : Cond.code ⟨"IharaZeta$Graph","leadsOn","(II)Z"⟩ prog_4_method_12_code 3 (some FieldType.boolean) ∈ tbG := tbG_in (List.mem_of_getElem? (i := 389) (by decide +kernel)) rfl
theorem m_390 : Cond.methodLink "IharaZeta$Graph" 32 ⟨"IharaZeta$Graph","endOf","(I)I"⟩ ∈ tbG := tbG_in (List.mem_of_getElem? (i := 390) (by decide +kernel)) rfl
theorem m_391 : Cond.methodLink "IharaZeta$Graph" 36 ⟨"IharaZeta$Graph","startOf","(I)I"⟩ ∈ tbG := tbG_in (List.mem_of_getElem? (i := 391) (by decide +kernel)) rfl
theorem m_392 : Cond.instanceMethod ⟨"IharaZeta$Graph","startOf","(I)I"⟩ ∈ tbG := tbG_in (List.mem_of_getElem? (i := 392) (by decide +kernel)) rfl
theorem m_393 : Cond.selects "IharaZeta$Graph" ⟨"IharaZeta$Graph","startOf","(I)I"⟩ ⟨"IharaZeta$Graph","startOf","(I)I"⟩ ∈ tbG := tbG_in (List.mem_of_getElem? (i := 393) (by decide +kernel)) rfl
theorem m_394 : Cond.code ⟨"IharaZeta$Graph","startOf","(I)I"⟩ prog_4_method_10_code 2 (some FieldType.int) ∈ tbG := tbG_in (List.mem_of_getElem? (i := 394) (by decide +kernel)) rfl
theorem m_395 : Cond.methodLink "IharaZetaLaw" 65 ⟨"IharaZeta","degree","(I)I"⟩ ∈ tbG := tbG_in (List.mem_of_getElem? (i := 395) (by decide +kernel)) rfl
theorem m_396 : Cond.instanceMethod ⟨"IharaZeta","degree","(I)I"⟩ ∈ tbG := tbG_in (List.mem_of_getElem? (i := 396) (by decide +kernel)) rfl
theorem m_397 : Cond.selects "IharaZeta" ⟨"IharaZeta","degree","(I)I"⟩ ⟨"IharaZeta","degree","(I)I"⟩ ∈ tbG := tbG_in (List.mem_of_getElem? (i := 397) (by decide +kernel)) rfl
theorem m_398 : Cond.code ⟨"IharaZeta","degree","(I)I"⟩ prog_1_method_14_code 2 (some FieldType.int) ∈ tbG := tbG_in (List.mem_of_getElem? (i := 398) (by decide +kernel)) rfl
theorem m_399 : Cond.methodLink "IharaZeta" 136 ⟨"IharaZeta$Graph","edgesAt","(I)I"⟩ ∈ tbG := tbG_in (List.mem_of_getElem? (i := 399) (by decide +kernel)) rfl
theorem m_400 : Cond.instanceMethod ⟨"IharaZeta$Graph","edgesAt","(I)I"⟩ ∈ tbG := tbG_in (List.mem_of_getElem? (i := 400) (by decide +kernel)) rfl
theorem m_401 : Cond.selects "IharaZeta$Graph" ⟨"IharaZeta$Graph","edgesAt","(I)I"⟩ ⟨"IharaZeta$Graph","edgesAt","(I)I"⟩ ∈ tbG := tbG_in (List.mem_of_getElem? (i := 401) (by decide +kernel)) rfl
theorem m_402 : Cond.code ⟨"IharaZeta$Graph","edgesAt","(I)I"⟩ prog_4_method_13_code 4 (some FieldType.int) ∈ tbG := tbG_in (List.mem_of_getElem? (i := 402) (by decide +kernel)) rfl
theorem m_403 : Cond.methodLink "IharaZetaLaw" 69 ⟨"IharaZeta","components","()I"⟩ ∈ tbG := tbG_in (List.mem_of_getElem? (i := 403) (by decide +kernel)) rfl
theorem m_404 : Cond.instanceMethod ⟨"IharaZeta","components","()I"⟩ ∈ tbG := tbG_in (List.mem_of_getElem? (i := 404) (by decide +kernel)) rfl
theorem m_405 : Cond.selects "IharaZeta" ⟨"IharaZeta","components","()I"⟩ ⟨"IharaZeta","components","()I"⟩ ∈ tbG := tbG_in (List.mem_of_getElem? (i := 405) (by decide +kernel)) rfl
theorem m_406 : Cond.code ⟨"IharaZeta","components","()I"⟩ prog_1_method_15_code 1 (some FieldType.int) ∈ tbG := tbG_in (List.mem_of_getElem? (i := 406) (by decide +kernel)) rfl
theorem m_407 : Cond.methodLink "IharaZeta" 139 ⟨"IharaZeta$Grouping","countGroups","(LIharaZeta$Graph;)I"⟩ ∈ tbG := tbG_in (List.mem_of_getElem? (i := 407) (by decide +kernel)) rfl
theorem m_408 : Cond.instanceMethod ⟨"IharaZeta$Grouping","countGroups","(LIharaZeta$Graph;)I"⟩ ∈ tbG := tbG_in (List.mem_of_getElem? (i := 408) (by decide +kernel)) rfl
theorem m_409 : Cond.selects "IharaZeta$Grouping" ⟨"IharaZeta$Grouping","countGroups","(LIharaZeta$Graph;)I"⟩ ⟨"IharaZeta$Grouping","countGroups","(LIharaZeta$Graph;)I"⟩ ∈ tbG := tbG_in (List.mem_of_getElem? (i := 409) (by decide +kernel)) rfl
theorem m_410 : Cond.code ⟨"IharaZeta$Grouping","countGroups","(LIharaZeta$Graph;)I"⟩ prog_5_method_2_code 4 (some FieldType.int) ∈ tbG := tbG_in (List.mem_of_getElem? (i := 410) (by decide +kernel)) rfl
theorem m_411 : Cond.methodLink "IharaZeta$Grouping" 18 ⟨"IharaZeta$Grouping","separate","()V"⟩ ∈ tbG := tbG_in (List.mem_of_getElem? (i := 411) (by decide +kernel)) rfl
theorem m_413 : Cond.instanceMethod ⟨"IharaZeta$Grouping","separate","()V"⟩ ∈ tbG := tbG_in (List.mem_of_getElem? (i := 413) (by decide +kernel)) rfl
theorem m_414 : Cond.code ⟨"IharaZeta$Grouping","separate","()V"⟩ prog_5_method_6_code 2 (none : Option FieldType) ∈ tbG := tbG_in (List.mem_of_getElem? (i := 414) (by decide +kernel)) rfl
theorem m_415 : Cond.methodLink "IharaZeta$Grouping" 30 ⟨"IharaZeta$Grouping","unite","(LIharaZeta$Graph;I)Z"⟩ ∈ tbG := tbG_in (List.mem_of_getElem? (i := 415) (by decide +kernel)) rfl
theorem m_417 : Cond.instanceMethod ⟨"IharaZeta$Grouping","unite","(LIharaZeta$Graph;I)Z"⟩ ∈ tbG := tbG_in (List.mem_of_getElem? (i := 417) (by decide +kernel)) rfl
theorem m_418 : Cond.code ⟨"IharaZeta$Grouping","unite","(LIharaZeta$Graph;I)Z"⟩ prog_5_method_7_code 7 (some FieldType.boolean) ∈ tbG := tbG_in (List.mem_of_getElem? (i := 418) (by decide +kernel)) rfl
theorem m_419 : Cond.methodLink "IharaZeta$Grouping" 34 ⟨"IharaZeta$Grouping","turnFor","(LIharaZeta$Graph;I)I"⟩ ∈ tbG := tbG_in (List.mem_of_getElem? (i := 419) (by decide +kernel)) rfl
theorem m_421 : Cond.instanceMethod ⟨"IharaZeta$Grouping","turnFor","(LIharaZeta$Graph;I)I"⟩ ∈ tbG := tbG_in (List.mem_of_getElem? (i := 421) (by decide +kernel)) rfl
theorem m_422 : Cond.code ⟨"IharaZeta$Grouping","turnFor","(LIharaZeta$Graph;I)I"⟩ prog_5_method_8_code 4 (some FieldType.int) ∈ tbG := tbG_in (List.mem_of_getElem? (i := 422) (by decide +kernel)) rfl
theorem m_423 : Cond.methodLink "IharaZetaLaw" 73 ⟨"IharaZeta","rank","()I"⟩ ∈ tbG := tbG_in (List.mem_of_getElem? (i := 423) (by decide +kernel)) rfl
theorem m_424 : Cond.instanceMethod ⟨"IharaZeta","rank","()I"⟩ ∈ tbG := tbG_in (List.mem_of_getElem? (i := 424) (by decide +kernel)) rfl
theorem m_425 : Cond.selects "IharaZeta" ⟨"IharaZeta","rank","()I"⟩ ⟨"IharaZeta","rank","()I"⟩ ∈ tbG := tbG_in (List.mem_of_getElem? (i := 425) (by decide +kernel)) rfl
theorem m_426 : Cond.code ⟨"IharaZeta","rank","()I"⟩ prog_1_method_16_code 1 (some FieldType.int) ∈ tbG := tbG_in (List.mem_of_getElem? (i := 426) (by decide +kernel)) rfl
theorem m_427 : Cond.methodLink "IharaZetaLaw" 77 ⟨"IharaZeta","isBalanced","()I"⟩ ∈ tbG := tbG_in (List.mem_of_getElem? (i := 427) (by decide +kernel)) rfl
theorem m_428 : Cond.instanceMethod ⟨"IharaZeta","isBalanced","()I"⟩ ∈ tbG := tbG_in (List.mem_of_getElem? (i := 428) (by decide +kernel)) rfl
theorem m_429 : Cond.selects "IharaZeta" ⟨"IharaZeta","isBalanced","()I"⟩ ⟨"IharaZeta","isBalanced","()I"⟩ ∈ tbG := tbG_in (List.mem_of_getElem? (i := 429) (by decide +kernel)) rfl
theorem m_430 : Cond.code ⟨"IharaZeta","isBalanced","()I"⟩ prog_1_method_17_code 1 (some FieldType.int) ∈ tbG := tbG_in (List.mem_of_getElem? (i := 430) (by decide +kernel)) rfl
theorem m_431 : Cond.methodLink "IharaZeta" 142 ⟨"IharaZeta$Grouping","canDivide","(LIharaZeta$Graph;)Z"⟩ ∈ tbG := tbG_in (List.mem_of_getElem? (i := 431) (by decide +kernel)) rfl
theorem m_432 : Cond.instanceMethod ⟨"IharaZeta$Grouping","canDivide","(LIharaZeta$Graph;)Z"⟩ ∈ tbG := tbG_in (List.mem_of_getElem? (i := 432) (by decide +kernel)) rfl
theorem m_433 : Cond.selects "IharaZeta$Grouping" ⟨"IharaZeta$Grouping","canDivide","(LIharaZeta$Graph;)Z"⟩ ⟨"IharaZeta$Grouping","canDivide","(LIharaZeta$Graph;)Z"⟩ ∈ tbG := tbG_in (List.mem_of_getElem? (i := 433) (by decide +kernel)) rfl
theorem m_434 : Cond.code ⟨"IharaZeta$Grouping","canDivide","(LIharaZeta$Graph;)Z"⟩ prog_5_method_3_code 3 (some FieldType.boolean) ∈ tbG := tbG_in (List.mem_of_getElem? (i := 434) (by decide +kernel)) rfl
theorem m_435 : Cond.methodLink "IharaZetaLaw" 81 ⟨"IharaZeta","walks","(I)J"⟩ ∈ tbG := tbG_in (List.mem_of_getElem? (i := 435) (by decide +kernel)) rfl
theorem m_436 : Cond.instanceMethod ⟨"IharaZeta","walks","(I)J"⟩ ∈ tbG := tbG_in (List.mem_of_getElem? (i := 436) (by decide +kernel)) rfl
theorem m_437 : Cond.selects "IharaZeta" ⟨"IharaZeta","walks","(I)J"⟩ ⟨"IharaZeta","walks","(I)J"⟩ ∈ tbG := tbG_in (List.mem_of_getElem? (i := 437) (by decide +kernel)) rfl
theorem m_438 : Cond.code ⟨"IharaZeta","walks","(I)J"⟩ prog_1_method_18_code 2 (some FieldType.long) ∈ tbG := tbG_in (List.mem_of_getElem? (i := 438) (by decide +kernel)) rfl
theorem m_439 : Cond.methodLink "IharaZeta" 146 ⟨"IharaZeta","isWalkLength","(I)Z"⟩ ∈ tbG := tbG_in (List.mem_of_getElem? (i := 439) (by decide +kernel)) rfl
theorem m_440 : Cond.static ⟨"IharaZeta","isWalkLength","(I)Z"⟩ ∈ tbG := tbG_in (List.mem_of_getElem? (i := 440) (by decide +kernel)) rfl
theorem m_441 : Cond.code ⟨"IharaZeta","isWalkLength","(I)Z"⟩ prog_1_method_37_code 1 (some FieldType.boolean) ∈ tbG := tbG_in (List.mem_of_getElem? (i := 441) (by decide +kernel)) rfl
theorem m_442 : Cond.constantLong "IharaZeta" 149 (-9223372036854775808 : Int64) ∈ tbG := tbG_in (List.mem_of_getElem? (i := 442) (by decide +kernel)) rfl
theorem m_443 : Cond.methodLink "IharaZeta" 151 ⟨"IharaZeta$WalkCounter","countClosed","(LIharaZeta$Graph;)V"⟩ ∈ tbG := tbG_in (List.mem_of_getElem? (i := 443) (by decide +kernel)) rfl
theorem m_444 : Cond.instanceMethod ⟨"IharaZeta$WalkCounter","countClosed","(LIharaZeta$Graph;)V"⟩ ∈ tbG := tbG_in (List.mem_of_getElem? (i := 444) (by decide +kernel)) rfl
theorem m_445 : Cond.selects "IharaZeta$WalkCounter" ⟨"IharaZeta$WalkCounter","countClosed","(LIharaZeta$Graph;)V"⟩ ⟨"IharaZeta$WalkCounter","countClosed","(LIharaZeta$Graph;)V"⟩ ∈ tbG := tbG_in (List.mem_of_getElem? (i := 445) (by decide +kernel)) rfl
theorem m_446 : Cond.code ⟨"IharaZeta$WalkCounter","countClosed","(LIharaZeta$Graph;)V"⟩ prog_9_method_2_code 2 (none : Option FieldType) ∈ tbG := tbG_in (List.mem_of_getElem? (i := 446) (by decide +kernel)) rfl
theorem m_447 : Cond.methodLink "IharaZeta$WalkCounter" 30 ⟨"IharaZeta$WalkCounter","addReturns","(LIharaZeta$Graph;Z[J)V"⟩ ∈ tbG := tbG_in (List.mem_of_getElem? (i := 447) (by decide +kernel)) rfl
theorem m_449 : Cond.instanceMethod ⟨"IharaZeta$WalkCounter","addReturns","(LIharaZeta$Graph;Z[J)V"⟩ ∈ tbG := tbG_in (List.mem_of_getElem? (i := 449) (by decide +kernel)) rfl
theorem m_450 : Cond.code ⟨"IharaZeta$WalkCounter","addReturns","(LIharaZeta$Graph;Z[J)V"⟩ prog_9_method_6_code 7 (none : Option FieldType) ∈ tbG := tbG_in (List.mem_of_getElem? (i := 450) (by decide +kernel)) rfl
theorem m_451 : Cond.methodLink "IharaZeta$WalkCounter" 44 ⟨"java/util/Arrays","fill","([JJ)V"⟩ ∈ tbG := tbG_in (List.mem_of_getElem? (i := 451) (by decide +kernel)) rfl
theorem m_452 : Cond.static ⟨"java/util/Arrays","fill","([JJ)V"⟩ ∈ tbG := tbG_in (List.mem_of_getElem? (i := 452) (by decide +kernel)) rfl
theorem m_453 : Cond.code ⟨"java/util/Arrays","fill","([JJ)V"⟩ prog_14_method_101_code 5 (none : Option FieldType) ∈ tbG := tbG_in (List.mem_of_getElem? (i := 453) (by decide +kernel)) rfl
theorem m_454 : Cond.methodLink "IharaZeta$WalkCounter" 56 ⟨"IharaZeta$WalkCounter","goOn","(LIharaZeta$Graph;Z)V"⟩ ∈ tbG := tbG_in (List.mem_of_getElem? (i := 454) (by decide +kernel)) rfl
theorem m_456 : Cond.instanceMethod ⟨"IharaZeta$WalkCounter","goOn","(LIharaZeta$Graph;Z)V"⟩ ∈ tbG := tbG_in (List.mem_of_getElem? (i := 456) (by decide +kernel)) rfl
theorem m_457 : Cond.code ⟨"IharaZeta$WalkCounter","goOn","(LIharaZeta$Graph;Z)V"⟩ prog_9_method_7_code 12 (none : Option FieldType) ∈ tbG := tbG_in (List.mem_of_getElem? (i := 457) (by decide +kernel)) rfl
theorem m_458 : Cond.methodLink "IharaZeta$WalkCounter" 62 ⟨"IharaZeta$Graph","endOf","(I)I"⟩ ∈ tbG := tbG_in (List.mem_of_getElem? (i := 458) (by decide +kernel)) rfl
theorem m_459 : Cond.methodLink "IharaZeta$WalkCounter" 70 ⟨"IharaZeta$Graph","startOf","(I)I"⟩ ∈ tbG := tbG_in (List.mem_of_getElem? (i := 459) (by decide +kernel)) rfl
theorem m_460 : Cond.constantLong "IharaZeta$WalkCounter" 60 (2 : Int64) ∈ tbG := tbG_in (List.mem_of_getElem? (i := 460) (by decide +kernel)) rfl
theorem m_461 : Cond.methodLink "IharaZetaLaw" 86 ⟨"IharaZeta","signedWalks","(I)J"⟩ ∈ tbG := tbG_in (List.mem_of_getElem? (i := 461) (by decide +kernel)) rfl
theorem m_462 : Cond.instanceMethod ⟨"IharaZeta","signedWalks","(I)J"⟩ ∈ tbG := tbG_in (List.mem_of_getElem? (i := 462) (by decide +kernel)) rfl
theorem m_463 : Cond.selects "IharaZeta" ⟨"IharaZeta","signedWalks","(I)J"⟩ ⟨"IharaZeta","signedWalks","(I)J"⟩ ∈ tbG := tbG_in (List.mem_of_getElem? (i := 463) (by decide +kernel)) rfl
theorem m_464 : Cond.code ⟨"IharaZeta","signedWalks","(I)J"⟩ prog_1_method_19_code 2 (some FieldType.long) ∈ tbG := tbG_in (List.mem_of_getElem? (i := 464) (by decide +kernel)) rfl
theorem m_465 : Cond.methodLink "IharaZeta" 158 ⟨"IharaZeta$WalkCounter","countClosedSigned","(LIharaZeta$Graph;)V"⟩ ∈ tbG := tbG_in (List.mem_of_getElem? (i := 465) (by decide +kernel)) rfl
theorem m_466 : Cond.instanceMethod ⟨"IharaZeta$WalkCounter","countClosedSigned","(LIharaZeta$Graph;)V"⟩ ∈ tbG := tbG_in (List.mem_of_getElem? (i := 466) (by decide +kernel)) rfl
theorem m_467 : Cond.selects "IharaZeta$WalkCounter" ⟨"IharaZeta$WalkCounter","countClosedSigned","(LIharaZeta$Graph;)V"⟩ ⟨"IharaZeta$WalkCounter","countClosedSigned","(LIharaZeta$Graph;)V"⟩ ∈ tbG := tbG_in (List.mem_of_getElem? (i := 467) (by decide +kernel)) rfl
theorem m_468 : Cond.code ⟨"IharaZeta$WalkCounter","countClosedSigned","(LIharaZeta$Graph;)V"⟩ prog_9_method_3_code 2 (none : Option FieldType) ∈ tbG := tbG_in (List.mem_of_getElem? (i := 468) (by decide +kernel)) rfl
theorem m_469 : Cond.methodLink "IharaZetaLaw" 90 ⟨"IharaZeta","coverWalks","(I)J"⟩ ∈ tbG := tbG_in (List.mem_of_getElem? (i := 469) (by decide +kernel)) rfl
theorem m_470 : Cond.instanceMethod ⟨"IharaZeta","coverWalks","(I)J"⟩ ∈ tbG := tbG_in (List.mem_of_getElem? (i := 470) (by decide +kernel)) rfl
theorem m_471 : Cond.selects "IharaZeta" ⟨"IharaZeta","coverWalks","(I)J"⟩ ⟨"IharaZeta","coverWalks","(I)J"⟩ ∈ tbG := tbG_in (List.mem_of_getElem? (i := 471) (by decide +kernel)) rfl
theorem m_472 : Cond.code ⟨"IharaZeta","coverWalks","(I)J"⟩ prog_1_method_20_code 2 (some FieldType.long) ∈ tbG := tbG_in (List.mem_of_getElem? (i := 472) (by decide +kernel)) rfl
theorem m_473 : Cond.methodLink "IharaZetaLaw" 94 ⟨"IharaZeta","primes","(I)J"⟩ ∈ tbG := tbG_in (List.mem_of_getElem? (i := 473) (by decide +kernel)) rfl
theorem m_474 : Cond.instanceMethod ⟨"IharaZeta","primes","(I)J"⟩ ∈ tbG := tbG_in (List.mem_of_getElem? (i := 474) (by decide +kernel)) rfl
theorem m_475 : Cond.selects "IharaZeta" ⟨"IharaZeta","primes","(I)J"⟩ ⟨"IharaZeta","primes","(I)J"⟩ ∈ tbG := tbG_in (List.mem_of_getElem? (i := 475) (by decide +kernel)) rfl
theorem m_476 : Cond.code ⟨"IharaZeta","primes","(I)J"⟩ prog_1_method_21_code 2 (some FieldType.long) ∈ tbG := tbG_in (List.mem_of_getElem? (i := 476) (by decide +kernel)) rfl
theorem m_477 : Cond.methodLink "IharaZeta" 164 ⟨"IharaZeta$WalkCounter","countPrimitive","(LIharaZeta$Graph;)V"⟩ ∈ tbG := tbG_in (List.mem_of_getElem? (i := 477) (by decide +kernel)) rfl
theorem m_478 : Cond.instanceMethod ⟨"IharaZeta$WalkCounter","countPrimitive","(LIharaZeta$Graph;)V"⟩ ∈ tbG := tbG_in (List.mem_of_getElem? (i := 478) (by decide +kernel)) rfl
theorem m_479 : Cond.selects "IharaZeta$WalkCounter" ⟨"IharaZeta$WalkCounter","countPrimitive","(LIharaZeta$Graph;)V"⟩ ⟨"IharaZeta$WalkCounter","countPrimitive","(LIharaZeta$Graph;)V"⟩ ∈ tbG := tbG_in (List.mem_of_getElem? (i := 479) (by decide +kernel)) rfl
theorem m_480 : Cond.code ⟨"IharaZeta$WalkCounter","countPrimitive","(LIharaZeta$Graph;)V"⟩ prog_9_method_4_code 4 (none : Option FieldType) ∈ tbG := tbG_in (List.mem_of_getElem? (i := 480) (by decide +kernel)) rfl
theorem m_481 : Cond.methodLink "IharaZeta$WalkCounter" 34 ⟨"IharaZeta$WalkCounter","countClosed","(LIharaZeta$Graph;)V"⟩ ∈ tbG := tbG_in (List.mem_of_getElem? (i := 481) (by decide +kernel)) rfl
theorem m_482 : Cond.methodLink "IharaZetaLaw" 98 ⟨"IharaZeta","positivePrimes","(I)J"⟩ ∈ tbG := tbG_in (List.mem_of_getElem? (i := 482) (by decide +kernel)) rfl
theorem m_483 : Cond.instanceMethod ⟨"IharaZeta","positivePrimes","(I)J"⟩ ∈ tbG := tbG_in (List.mem_of_getElem? (i := 483) (by decide +kernel)) rfl
theorem m_484 : Cond.selects "IharaZeta" ⟨"IharaZeta","positivePrimes","(I)J"⟩ ⟨"IharaZeta","positivePrimes","(I)J"⟩ ∈ tbG := tbG_in (List.mem_of_getElem? (i := 484) (by decide +kernel)) rfl
theorem m_485 : Cond.code ⟨"IharaZeta","positivePrimes","(I)J"⟩ prog_1_method_22_code 4 (some FieldType.long) ∈ tbG := tbG_in (List.mem_of_getElem? (i := 485) (by decide +kernel)) rfl
theorem m_486 : Cond.methodLink "IharaZeta" 170 ⟨"IharaZeta$WalkCounter","countPrimitiveSigned","(LIharaZeta$Graph;)V"⟩ ∈ tbG := tbG_in (List.mem_of_getElem? (i := 486) (by decide +kernel)) rfl
theorem m_487 : Cond.instanceMethod ⟨"IharaZeta$WalkCounter","countPrimitiveSigned","(LIharaZeta$Graph;)V"⟩ ∈ tbG := tbG_in (List.mem_of_getElem? (i := 487) (by decide +kernel)) rfl
theorem m_488 : Cond.selects "IharaZeta$WalkCounter" ⟨"IharaZeta$WalkCounter","countPrimitiveSigned","(LIharaZeta$Graph;)V"⟩ ⟨"IharaZeta$WalkCounter","countPrimitiveSigned","(LIharaZeta$Graph;)V"⟩ ∈ tbG := tbG_in (List.mem_of_getElem? (i := 488) (by decide +kernel)) rfl
theorem m_489 : Cond.code ⟨"IharaZeta$WalkCounter","countPrimitiveSigned","(LIharaZeta$Graph;)V"⟩ prog_9_method_5_code 5 (none : Option FieldType) ∈ tbG := tbG_in (List.mem_of_getElem? (i := 489) (by decide +kernel)) rfl
theorem m_490 : Cond.methodLink "IharaZeta$WalkCounter" 38 ⟨"IharaZeta$WalkCounter","countPrimitive","(LIharaZeta$Graph;)V"⟩ ∈ tbG := tbG_in (List.mem_of_getElem? (i := 490) (by decide +kernel)) rfl
theorem m_491 : Cond.methodLink "IharaZeta$WalkCounter" 41 ⟨"IharaZeta$WalkCounter","countClosedSigned","(LIharaZeta$Graph;)V"⟩ ∈ tbG := tbG_in (List.mem_of_getElem? (i := 491) (by decide +kernel)) rfl
theorem m_492 : Cond.constantLong "IharaZeta" 176 (2 : Int64) ∈ tbG := tbG_in (List.mem_of_getElem? (i := 492) (by decide +kernel)) rfl
theorem m_493 : Cond.methodLink "IharaZetaLaw" 102 ⟨"IharaZeta","girth","()I"⟩ ∈ tbG := tbG_in (List.mem_of_getElem? (i := 493) (by decide +kernel)) rfl
theorem m_494 : Cond.instanceMethod ⟨"IharaZeta","girth","()I"⟩ ∈ tbG := tbG_in (List.mem_of_getElem? (i := 494) (by decide +kernel)) rfl
theorem m_495 : Cond.selects "IharaZeta" ⟨"IharaZeta","girth","()I"⟩ ⟨"IharaZeta","girth","()I"⟩ ∈ tbG := tbG_in (List.mem_of_getElem? (i := 495) (by decide +kernel)) rfl
theorem m_496 : Cond.code ⟨"IharaZeta","girth","()I"⟩ prog_1_method_23_code 2 (some FieldType.int) ∈ tbG := tbG_in (List.mem_of_getElem? (i := 496) (by decide +kernel)) rfl
theorem m_497 : Cond.methodLink "IharaZetaLaw" 106 ⟨"IharaZeta","period","()I"⟩ ∈ tbG := tbG_in (List.mem_of_getElem? (i := 497) (by decide +kernel)) rfl
theorem m_498 : Cond.instanceMethod ⟨"IharaZeta","period","()I"⟩ ∈ tbG := tbG_in (List.mem_of_getElem? (i := 498) (by decide +kernel)) rfl
theorem m_499 : Cond.selects "IharaZeta" ⟨"IharaZeta","period","()I"⟩ ⟨"IharaZeta","period","()I"⟩ ∈ tbG := tbG_in (List.mem_of_getElem? (i := 499) (by decide +kernel)) rfl
theorem m_500 : Cond.code ⟨"IharaZeta","period","()I"⟩ prog_1_method_24_code 3 (some FieldType.int) ∈ tbG := tbG_in (List.mem_of_getElem? (i := 500) (by decide +kernel)) rfl
theorem m_501 : Cond.methodLink "IharaZeta" 178 ⟨"IharaZeta","commonDivisor","(II)I"⟩ ∈ tbG := tbG_in (List.mem_of_getElem? (i := 501) (by decide +kernel)) rfl
theorem m_502 : Cond.static ⟨"IharaZeta","commonDivisor","(II)I"⟩ ∈ tbG := tbG_in (List.mem_of_getElem? (i := 502) (by decide +kernel)) rfl
theorem m_503 : Cond.code ⟨"IharaZeta","commonDivisor","(II)I"⟩ prog_1_method_40_code 3 (some FieldType.int) ∈ tbG := tbG_in (List.mem_of_getElem? (i := 503) (by decide +kernel)) rfl
theorem m_504 : Cond.methodLink "IharaZetaLaw" 110 ⟨"IharaZeta","primeEdge","(III)I"⟩ ∈ tbG := tbG_in (List.mem_of_getElem? (i := 504) (by decide +kernel)) rfl
theorem m_505 : Cond.instanceMethod ⟨"IharaZeta","primeEdge","(III)I"⟩ ∈ tbG := tbG_in (List.mem_of_getElem? (i := 505) (by decide +kernel)) rfl
theorem m_506 : Cond.selects "IharaZeta" ⟨"IharaZeta","primeEdge","(III)I"⟩ ⟨"IharaZeta","primeEdge","(III)I"⟩ ∈ tbG := tbG_in (List.mem_of_getElem? (i := 506) (by decide +kernel)) rfl
theorem m_507 : Cond.code ⟨"IharaZeta","primeEdge","(III)I"⟩ prog_1_method_25_code 4 (some FieldType.int) ∈ tbG := tbG_in (List.mem_of_getElem? (i := 507) (by decide +kernel)) rfl
theorem m_508 : Cond.methodLink "IharaZeta" 182 ⟨"IharaZeta","isPrimeLength","(I)Z"⟩ ∈ tbG := tbG_in (List.mem_of_getElem? (i := 508) (by decide +kernel)) rfl
theorem m_509 : Cond.static ⟨"IharaZeta","isPrimeLength","(I)Z"⟩ ∈ tbG := tbG_in (List.mem_of_getElem? (i := 509) (by decide +kernel)) rfl
theorem m_510 : Cond.code ⟨"IharaZeta","isPrimeLength","(I)Z"⟩ prog_1_method_38_code 1 (some FieldType.boolean) ∈ tbG := tbG_in (List.mem_of_getElem? (i := 510) (by decide +kernel)) rfl
theorem m_511 : Cond.methodLink "IharaZeta" 185 ⟨"IharaZeta$PrimeSearch","find","(LIharaZeta$Graph;II)Z"⟩ ∈ tbG := tbG_in (List.mem_of_getElem? (i := 511) (by decide +kernel)) rfl
theorem m_512 : Cond.instanceMethod ⟨"IharaZeta$PrimeSearch","find","(LIharaZeta$Graph;II)Z"⟩ ∈ tbG := tbG_in (List.mem_of_getElem? (i := 512) (by decide +kernel)) rfl
theorem m_513 : Cond.selects "IharaZeta$PrimeSearch" ⟨"IharaZeta$PrimeSearch","find","(LIharaZeta$Graph;II)Z"⟩ ⟨"IharaZeta$PrimeSearch","find","(LIharaZeta$Graph;II)Z"⟩ ∈ tbG := tbG_in (List.mem_of_getElem? (i := 513) (by decide +kernel)) rfl
theorem m_514 : Cond.code ⟨"IharaZeta$PrimeSearch","find","(LIharaZeta$Graph;II)Z"⟩ prog_7_method_2_code 4 (some FieldType.boolean) ∈ tbG := tbG_in (List.mem_of_getElem? (i := 514) (by decide +kernel)) rfl
theorem m_515 : Cond.methodLink "IharaZeta$PrimeSearch" 19 ⟨"IharaZeta$PrimeSearch","extend","(LIharaZeta$Graph;III)Z"⟩ ∈ tbG := tbG_in (List.mem_of_getElem? (i := 515) (by decide +kernel)) rfl
theorem m_517 : Cond.instanceMethod ⟨"IharaZeta$PrimeSearch","extend","(LIharaZeta$Graph;III)Z"⟩ ∈ tbG := tbG_in (List.mem_of_getElem? (i := 517) (by decide +kernel)) rfl
theorem m_518 : Cond.code ⟨"IharaZeta$PrimeSearch","extend","(LIharaZeta$Graph;III)Z"⟩ prog_7_method_4_code 8 (some FieldType.boolean) ∈ tbG := tbG_in (List.mem_of_getElem? (i := 518) (by decide +kernel)) rfl
theorem m_519 : Cond.methodLink "IharaZeta$PrimeSearch" 28 ⟨"IharaZeta$PrimeSearch","isWanted","(LIharaZeta$Graph;II)Z"⟩ ∈ tbG := tbG_in (List.mem_of_getElem? (i := 519) (by decide +kernel)) rfl
theorem m_521 : Cond.instanceMethod ⟨"IharaZeta$PrimeSearch","isWanted","(LIharaZeta$Graph;II)Z"⟩ ∈ tbG := tbG_in (List.mem_of_getElem? (i := 521) (by decide +kernel)) rfl
theorem m_522 : Cond.code ⟨"IharaZeta$PrimeSearch","isWanted","(LIharaZeta$Graph;II)Z"⟩ prog_7_method_5_code 4 (some FieldType.boolean) ∈ tbG := tbG_in (List.mem_of_getElem? (i := 522) (by decide +kernel)) rfl
theorem m_523 : Cond.methodLink "IharaZeta$PrimeSearch" 35 ⟨"IharaZeta$Graph","leadsOn","(II)Z"⟩ ∈ tbG := tbG_in (List.mem_of_getElem? (i := 523) (by decide +kernel)) rfl
theorem m_524 : Cond.methodLink "IharaZetaLaw" 114 ⟨"IharaZeta","primeSign","(II)I"⟩ ∈ tbG := tbG_in (List.mem_of_getElem? (i := 524) (by decide +kernel)) rfl
theorem m_525 : Cond.instanceMethod ⟨"IharaZeta","primeSign","(II)I"⟩ ∈ tbG := tbG_in (List.mem_of_getElem? (i := 525) (by decide +kernel)) rfl
theorem m_526 : Cond.selects "IharaZeta" ⟨"IharaZeta","primeSign","(II)I"⟩ ⟨"IharaZeta","primeSign","(II)I"⟩ ∈ tbG := tbG_in (List.mem_of_getElem? (i := 526) (by decide +kernel)) rfl
theorem m_527 : Cond.code ⟨"IharaZeta","primeSign","(II)I"⟩ prog_1_method_26_code 3 (some FieldType.int) ∈ tbG := tbG_in (List.mem_of_getElem? (i := 527) (by decide +kernel)) rfl
theorem m_528 : Cond.methodLink "IharaZeta" 192 ⟨"IharaZeta$PrimeSearch","signOfWord","(LIharaZeta$Graph;I)I"⟩ ∈ tbG := tbG_in (List.mem_of_getElem? (i := 528) (by decide +kernel)) rfl
theorem m_529 : Cond.instanceMethod ⟨"IharaZeta$PrimeSearch","signOfWord","(LIharaZeta$Graph;I)I"⟩ ∈ tbG := tbG_in (List.mem_of_getElem? (i := 529) (by decide +kernel)) rfl
theorem m_530 : Cond.selects "IharaZeta$PrimeSearch" ⟨"IharaZeta$PrimeSearch","signOfWord","(LIharaZeta$Graph;I)I"⟩ ⟨"IharaZeta$PrimeSearch","signOfWord","(LIharaZeta$Graph;I)I"⟩ ∈ tbG := tbG_in (List.mem_of_getElem? (i := 530) (by decide +kernel)) rfl
theorem m_531 : Cond.code ⟨"IharaZeta$PrimeSearch","signOfWord","(LIharaZeta$Graph;I)I"⟩ prog_7_method_3_code 5 (some FieldType.int) ∈ tbG := tbG_in (List.mem_of_getElem? (i := 531) (by decide +kernel)) rfl
theorem m_532 : Cond.methodLink "IharaZetaLaw" 118 ⟨"IharaZeta","edgeCoefficient","(I)J"⟩ ∈ tbG := tbG_in (List.mem_of_getElem? (i := 532) (by decide +kernel)) rfl
theorem m_533 : Cond.instanceMethod ⟨"IharaZeta","edgeCoefficient","(I)J"⟩ ∈ tbG := tbG_in (List.mem_of_getElem? (i := 533) (by decide +kernel)) rfl
theorem m_534 : Cond.selects "IharaZeta" ⟨"IharaZeta","edgeCoefficient","(I)J"⟩ ⟨"IharaZeta","edgeCoefficient","(I)J"⟩ ∈ tbG := tbG_in (List.mem_of_getElem? (i := 534) (by decide +kernel)) rfl
theorem m_535 : Cond.code ⟨"IharaZeta","edgeCoefficient","(I)J"⟩ prog_1_method_27_code 2 (some FieldType.long) ∈ tbG := tbG_in (List.mem_of_getElem? (i := 535) (by decide +kernel)) rfl
theorem m_536 : Cond.methodLink "IharaZeta" 196 ⟨"IharaZeta","isIndex","(II)Z"⟩ ∈ tbG := tbG_in (List.mem_of_getElem? (i := 536) (by decide +kernel)) rfl
theorem m_537 : Cond.static ⟨"IharaZeta","isIndex","(II)Z"⟩ ∈ tbG := tbG_in (List.mem_of_getElem? (i := 537) (by decide +kernel)) rfl
theorem m_538 : Cond.code ⟨"IharaZeta","isIndex","(II)Z"⟩ prog_1_method_39_code 2 (some FieldType.boolean) ∈ tbG := tbG_in (List.mem_of_getElem? (i := 538) (by decide +kernel)) rfl
theorem m_539 : Cond.methodLink "IharaZeta" 199 ⟨"IharaZeta","makeEdgePolynomial","()V"⟩ ∈ tbG := tbG_in (List.mem_of_getElem? (i := 539) (by decide +kernel)) rfl
theorem m_541 : Cond.instanceMethod ⟨"IharaZeta","makeEdgePolynomial","()V"⟩ ∈ tbG := tbG_in (List.mem_of_getElem? (i := 541) (by decide +kernel)) rfl
theorem m_542 : Cond.code ⟨"IharaZeta","makeEdgePolynomial","()V"⟩ prog_1_method_36_code 1 (none : Option FieldType) ∈ tbG := tbG_in (List.mem_of_getElem? (i := 542) (by decide +kernel)) rfl
theorem m_543 : Cond.methodLink "IharaZeta" 205 ⟨"IharaZeta$EdgePolynomial","makeFrom","([J)V"⟩ ∈ tbG := tbG_in (List.mem_of_getElem? (i := 543) (by decide +kernel)) rfl
theorem m_544 : Cond.instanceMethod ⟨"IharaZeta$EdgePolynomial","makeFrom","([J)V"⟩ ∈ tbG := tbG_in (List.mem_of_getElem? (i := 544) (by decide +kernel)) rfl
theorem m_545 : Cond.selects "IharaZeta$EdgePolynomial" ⟨"IharaZeta$EdgePolynomial","makeFrom","([J)V"⟩ ⟨"IharaZeta$EdgePolynomial","makeFrom","([J)V"⟩ ∈ tbG := tbG_in (List.mem_of_getElem? (i := 545) (by decide +kernel)) rfl
theorem m_546 : Cond.code ⟨"IharaZeta$EdgePolynomial","makeFrom","([J)V"⟩ prog_2_method_2_code 6 (none : Option FieldType) ∈ tbG := tbG_in (List.mem_of_getElem? (i := 546) (by decide +kernel)) rfl
theorem m_547 : Cond.methodLink "IharaZetaLaw" 122 ⟨"IharaZeta","signedCoefficient","(I)J"⟩ ∈ tbG := tbG_in (List.mem_of_getElem? (i := 547) (by decide +kernel)) rfl
theorem m_548 : Cond.instanceMethod ⟨"IharaZeta","signedCoefficient","(I)J"⟩ ∈ tbG := tbG_in (List.mem_of_getElem? (i := 548) (by decide +kernel)) rfl
theorem m_549 : Cond.selects "IharaZeta" ⟨"IharaZeta","signedCoefficient","(I)J"⟩ ⟨"IharaZeta","signedCoefficient","(I)J"⟩ ∈ tbG := tbG_in (List.mem_of_getElem? (i := 549) (by decide +kernel)) rfl
theorem m_550 : Cond.code ⟨"IharaZeta","signedCoefficient","(I)J"⟩ prog_1_method_28_code 2 (some FieldType.long) ∈ tbG := tbG_in (List.mem_of_getElem? (i := 550) (by decide +kernel)) rfl
theorem m_551 : Cond.methodLink "IharaZetaLaw" 126 ⟨"IharaZeta","vertexCoefficient","(I)J"⟩ ∈ tbG := tbG_in (List.mem_of_getElem? (i := 551) (by decide +kernel)) rfl
theorem m_552 : Cond.instanceMethod ⟨"IharaZeta","vertexCoefficient","(I)J"⟩ ∈ tbG := tbG_in (List.mem_of_getElem? (i := 552) (by decide +kernel)) rfl
theorem m_553 : Cond.selects "IharaZeta" ⟨"IharaZeta","vertexCoefficient","(I)J"⟩ ⟨"IharaZeta","vertexCoefficient","(I)J"⟩ ∈ tbG := tbG_in (List.mem_of_getElem? (i := 553) (by decide +kernel)) rfl
theorem m_554 : Cond.code ⟨"IharaZeta","vertexCoefficient","(I)J"⟩ prog_1_method_29_code 2 (some FieldType.long) ∈ tbG := tbG_in (List.mem_of_getElem? (i := 554) (by decide +kernel)) rfl
theorem m_555 : Cond.methodLink "IharaZeta" 209 ⟨"IharaZeta$VertexPolynomial","makeFrom","(LIharaZeta$Graph;)V"⟩ ∈ tbG := tbG_in (List.mem_of_getElem? (i := 555) (by decide +kernel)) rfl
theorem m_556 : Cond.instanceMethod ⟨"IharaZeta$VertexPolynomial","makeFrom","(LIharaZeta$Graph;)V"⟩ ∈ tbG := tbG_in (List.mem_of_getElem? (i := 556) (by decide +kernel)) rfl
theorem m_557 : Cond.selects "IharaZeta$VertexPolynomial" ⟨"IharaZeta$VertexPolynomial","makeFrom","(LIharaZeta$Graph;)V"⟩ ⟨"IharaZeta$VertexPolynomial","makeFrom","(LIharaZeta$Graph;)V"⟩ ∈ tbG := tbG_in (List.mem_of_getElem? (i := 557) (by decide +kernel)) rfl
theorem m_558 : Cond.code ⟨"IharaZeta$VertexPolynomial","makeFrom","(LIharaZeta$Graph;)V"⟩ prog_8_method_2_code 4 (none : Option FieldType) ∈ tbG := tbG_in (List.mem_of_getElem? (i := 558) (by decide +kernel)) rfl
theorem m_559 : Cond.methodLink "IharaZeta$VertexPolynomial" 20 ⟨"java/util/Arrays","fill","([JJ)V"⟩ ∈ tbG := tbG_in (List.mem_of_getElem? (i := 559) (by decide +kernel)) rfl
theorem m_560 : Cond.methodLink "IharaZeta$VertexPolynomial" 32 ⟨"IharaZeta$VertexPolynomial","makeMinor","(LIharaZeta$Graph;I)V"⟩ ∈ tbG := tbG_in (List.mem_of_getElem? (i := 560) (by decide +kernel)) rfl
theorem m_562 : Cond.instanceMethod ⟨"IharaZeta$VertexPolynomial","makeMinor","(LIharaZeta$Graph;I)V"⟩ ∈ tbG := tbG_in (List.mem_of_getElem? (i := 562) (by decide +kernel)) rfl
theorem m_563 : Cond.code ⟨"IharaZeta$VertexPolynomial","makeMinor","(LIharaZeta$Graph;I)V"⟩ prog_8_method_4_code 8 (none : Option FieldType) ∈ tbG := tbG_in (List.mem_of_getElem? (i := 563) (by decide +kernel)) rfl
theorem m_564 : Cond.methodLink "IharaZeta$VertexPolynomial" 42 ⟨"java/lang/Integer","bitCount","(I)I"⟩ ∈ tbG := tbG_in (List.mem_of_getElem? (i := 564) (by decide +kernel)) rfl
theorem m_565 : Cond.static ⟨"java/lang/Integer","bitCount","(I)I"⟩ ∈ tbG := tbG_in (List.mem_of_getElem? (i := 565) (by decide +kernel)) rfl
theorem m_566 : Cond.code ⟨"java/lang/Integer","bitCount","(I)I"⟩ prog_12_method_49_code 1 (some FieldType.int) ∈ tbG := tbG_in (List.mem_of_getElem? (i := 566) (by decide +kernel)) rfl
theorem m_567 : Cond.constant "java/lang/Integer" 265 (1431655765 : Int32) ∈ tbG := tbG_in (List.mem_of_getElem? (i := 567) (by decide +kernel)) rfl
theorem m_568 : Cond.constant "java/lang/Integer" 266 (858993459 : Int32) ∈ tbG := tbG_in (List.mem_of_getElem? (i := 568) (by decide +kernel)) rfl
theorem m_569 : Cond.constant "java/lang/Integer" 267 (252645135 : Int32) ∈ tbG := tbG_in (List.mem_of_getElem? (i := 569) (by decide +kernel)) rfl
theorem m_570 : Cond.methodLink "IharaZeta$VertexPolynomial" 48 ⟨"IharaZeta$VertexPolynomial","addProduct","(LIharaZeta$Graph;IIJ[J[J)V"⟩ ∈ tbG := tbG_in (List.mem_of_getElem? (i := 570) (by decide +kernel)) rfl
theorem m_571 : Cond.static ⟨"IharaZeta$VertexPolynomial","addProduct","(LIharaZeta$Graph;IIJ[J[J)V"⟩ ∈ tbG := tbG_in (List.mem_of_getElem? (i := 571) (by decide +kernel)) rfl
theorem m_572 : Cond.code ⟨"IharaZeta$VertexPolynomial","addProduct","(LIharaZeta$Graph;IIJ[J[J)V"⟩ prog_8_method_5_code 7 (none : Option FieldType) ∈ tbG := tbG_in (List.mem_of_getElem? (i := 572) (by decide +kernel)) rfl
theorem m_573 : Cond.methodLink "IharaZeta$VertexPolynomial" 52 ⟨"IharaZeta$Graph","edgesBetween","(II)I"⟩ ∈ tbG := tbG_in (List.mem_of_getElem? (i := 573) (by decide +kernel)) rfl
theorem m_574 : Cond.instanceMethod ⟨"IharaZeta$Graph","edgesBetween","(II)I"⟩ ∈ tbG := tbG_in (List.mem_of_getElem? (i := 574) (by decide +kernel)) rfl
theorem m_575 : Cond.selects "IharaZeta$Graph" ⟨"IharaZeta$Graph","edgesBetween","(II)I"⟩ ⟨"IharaZeta$Graph","edgesBetween","(II)I"⟩ ∈ tbG := tbG_in (List.mem_of_getElem? (i := 575) (by decide +kernel)) rfl
theorem m_576 : Cond.code ⟨"IharaZeta$Graph","edgesBetween","(II)I"⟩ prog_4_method_14_code 7 (some FieldType.int) ∈ tbG := tbG_in (List.mem_of_getElem? (i := 576) (by decide +kernel)) rfl
theorem m_577 : Cond.methodLink "IharaZeta$VertexPolynomial" 56 ⟨"IharaZeta$VertexPolynomial","addShifted","([JIJ[J)V"⟩ ∈ tbG := tbG_in (List.mem_of_getElem? (i := 577) (by decide +kernel)) rfl
theorem m_578 : Cond.static ⟨"IharaZeta$VertexPolynomial","addShifted","([JIJ[J)V"⟩ ∈ tbG := tbG_in (List.mem_of_getElem? (i := 578) (by decide +kernel)) rfl
theorem m_579 : Cond.code ⟨"IharaZeta$VertexPolynomial","addShifted","([JIJ[J)V"⟩ prog_8_method_6_code 6 (none : Option FieldType) ∈ tbG := tbG_in (List.mem_of_getElem? (i := 579) (by decide +kernel)) rfl
theorem m_580 : Cond.methodLink "IharaZeta$VertexPolynomial" 60 ⟨"IharaZeta$Graph","edgesAt","(I)I"⟩ ∈ tbG := tbG_in (List.mem_of_getElem? (i := 580) (by decide +kernel)) rfl
theorem m_581 : Cond.methodLink "IharaZeta$VertexPolynomial" 36 ⟨"java/lang/System","arraycopy","(Ljava/lang/Object;ILjava/lang/Object;II)V"⟩ ∈ tbG := tbG_in (List.mem_of_getElem? (i := 581) (by decide +kernel)) rfl
theorem m_582 : Cond.static ⟨"java/lang/System","arraycopy","(Ljava/lang/Object;ILjava/lang/Object;II)V"⟩ ∈ tbG := tbG_in (List.mem_of_getElem? (i := 582) (by decide +kernel)) rfl
theorem m_583 : Cond.native ⟨"java/lang/System","arraycopy","(Ljava/lang/Object;ILjava/lang/Object;II)V"⟩ ∈ tbG := tbG_in (List.mem_of_getElem? (i := 583) (by decide +kernel)) rfl
theorem m_584 : Cond.methodLink "IharaZetaLaw" 130 ⟨"IharaZeta","bassCoefficient","(I)J"⟩ ∈ tbG := tbG_in (List.mem_of_getElem? (i := 584) (by decide +kernel)) rfl
theorem m_585 : Cond.instanceMethod ⟨"IharaZeta","bassCoefficient","(I)J"⟩ ∈ tbG := tbG_in (List.mem_of_getElem? (i := 585) (by decide +kernel)) rfl
theorem m_586 : Cond.selects "IharaZeta" ⟨"IharaZeta","bassCoefficient","(I)J"⟩ ⟨"IharaZeta","bassCoefficient","(I)J"⟩ ∈ tbG := tbG_in (List.mem_of_getElem? (i := 586) (by decide +kernel)) rfl
theorem m_587 : Cond.code ⟨"IharaZeta","bassCoefficient","(I)J"⟩ prog_1_method_30_code 2 (some FieldType.long) ∈ tbG := tbG_in (List.mem_of_getElem? (i := 587) (by decide +kernel)) rfl
theorem m_588 : Cond.methodLink "IharaZeta" 212 ⟨"IharaZeta$VertexPolynomial","turnIntoBass","(I)V"⟩ ∈ tbG := tbG_in (List.mem_of_getElem? (i := 588) (by decide +kernel)) rfl
theorem m_589 : Cond.instanceMethod ⟨"IharaZeta$VertexPolynomial","turnIntoBass","(I)V"⟩ ∈ tbG := tbG_in (List.mem_of_getElem? (i := 589) (by decide +kernel)) rfl
theorem m_590 : Cond.selects "IharaZeta$VertexPolynomial" ⟨"IharaZeta$VertexPolynomial","turnIntoBass","(I)V"⟩ ⟨"IharaZeta$VertexPolynomial","turnIntoBass","(I)V"⟩ ∈ tbG := tbG_in (List.mem_of_getElem? (i := 590) (by decide +kernel)) rfl
theorem m_591 : Cond.code ⟨"IharaZeta$VertexPolynomial","turnIntoBass","(I)V"⟩ prog_8_method_3_code 4 (none : Option FieldType) ∈ tbG := tbG_in (List.mem_of_getElem? (i := 591) (by decide +kernel)) rfl
theorem m_592 : Cond.methodLink "IharaZetaLaw" 134 ⟨"IharaZeta","zetaCoefficient","(I)J"⟩ ∈ tbG := tbG_in (List.mem_of_getElem? (i := 592) (by decide +kernel)) rfl
theorem m_593 : Cond.instanceMethod ⟨"IharaZeta","zetaCoefficient","(I)J"⟩ ∈ tbG := tbG_in (List.mem_of_getElem? (i := 593) (by decide +kernel)) rfl
theorem m_594 : Cond.selects "IharaZeta" ⟨"IharaZeta","zetaCoefficient","(I)J"⟩ ⟨"IharaZeta","zetaCoefficient","(I)J"⟩ ∈ tbG := tbG_in (List.mem_of_getElem? (i := 594) (by decide +kernel)) rfl
theorem m_595 : Cond.code ⟨"IharaZeta","zetaCoefficient","(I)J"⟩ prog_1_method_31_code 2 (some FieldType.long) ∈ tbG := tbG_in (List.mem_of_getElem? (i := 595) (by decide +kernel)) rfl
theorem m_596 : Cond.methodLink "IharaZeta" 215 ⟨"IharaZeta$EdgePolynomial","inverseCoefficient","(I)J"⟩ ∈ tbG := tbG_in (List.mem_of_getElem? (i := 596) (by decide +kernel)) rfl
theorem m_597 : Cond.instanceMethod ⟨"IharaZeta$EdgePolynomial","inverseCoefficient","(I)J"⟩ ∈ tbG := tbG_in (List.mem_of_getElem? (i := 597) (by decide +kernel)) rfl
theorem m_598 : Cond.selects "IharaZeta$EdgePolynomial" ⟨"IharaZeta$EdgePolynomial","inverseCoefficient","(I)J"⟩ ⟨"IharaZeta$EdgePolynomial","inverseCoefficient","(I)J"⟩ ∈ tbG := tbG_in (List.mem_of_getElem? (i := 598) (by decide +kernel)) rfl
theorem m_599 : Cond.code ⟨"IharaZeta$EdgePolynomial","inverseCoefficient","(I)J"⟩ prog_2_method_3_code 6 (some FieldType.long) ∈ tbG := tbG_in (List.mem_of_getElem? (i := 599) (by decide +kernel)) rfl
theorem m_600 : Cond.methodLink "IharaZetaLaw" 138 ⟨"IharaZeta","edgeValue","(I)J"⟩ ∈ tbG := tbG_in (List.mem_of_getElem? (i := 600) (by decide +kernel)) rfl
theorem m_601 : Cond.instanceMethod ⟨"IharaZeta","edgeValue","(I)J"⟩ ∈ tbG := tbG_in (List.mem_of_getElem? (i := 601) (by decide +kernel)) rfl
theorem m_602 : Cond.selects "IharaZeta" ⟨"IharaZeta","edgeValue","(I)J"⟩ ⟨"IharaZeta","edgeValue","(I)J"⟩ ∈ tbG := tbG_in (List.mem_of_getElem? (i := 602) (by decide +kernel)) rfl
theorem m_603 : Cond.code ⟨"IharaZeta","edgeValue","(I)J"⟩ prog_1_method_32_code 2 (some FieldType.long) ∈ tbG := tbG_in (List.mem_of_getElem? (i := 603) (by decide +kernel)) rfl
theorem m_604 : Cond.methodLink "IharaZeta" 219 ⟨"IharaZeta$EdgePolynomial","valueAt","(J)J"⟩ ∈ tbG := tbG_in (List.mem_of_getElem? (i := 604) (by decide +kernel)) rfl
theorem m_605 : Cond.instanceMethod ⟨"IharaZeta$EdgePolynomial","valueAt","(J)J"⟩ ∈ tbG := tbG_in (List.mem_of_getElem? (i := 605) (by decide +kernel)) rfl
theorem m_606 : Cond.selects "IharaZeta$EdgePolynomial" ⟨"IharaZeta$EdgePolynomial","valueAt","(J)J"⟩ ⟨"IharaZeta$EdgePolynomial","valueAt","(J)J"⟩ ∈ tbG := tbG_in (List.mem_of_getElem? (i := 606) (by decide +kernel)) rfl
theorem m_607 : Cond.code ⟨"IharaZeta$EdgePolynomial","valueAt","(J)J"⟩ prog_2_method_4_code 6 (some FieldType.long) ∈ tbG := tbG_in (List.mem_of_getElem? (i := 607) (by decide +kernel)) rfl
theorem m_608 : Cond.methodLink "IharaZetaLaw" 142 ⟨"IharaZeta","taylorAtOne","(I)J"⟩ ∈ tbG := tbG_in (List.mem_of_getElem? (i := 608) (by decide +kernel)) rfl
theorem m_609 : Cond.instanceMethod ⟨"IharaZeta","taylorAtOne","(I)J"⟩ ∈ tbG := tbG_in (List.mem_of_getElem? (i := 609) (by decide +kernel)) rfl
theorem m_610 : Cond.selects "IharaZeta" ⟨"IharaZeta","taylorAtOne","(I)J"⟩ ⟨"IharaZeta","taylorAtOne","(I)J"⟩ ∈ tbG := tbG_in (List.mem_of_getElem? (i := 610) (by decide +kernel)) rfl
theorem m_611 : Cond.code ⟨"IharaZeta","taylorAtOne","(I)J"⟩ prog_1_method_33_code 2 (some FieldType.long) ∈ tbG := tbG_in (List.mem_of_getElem? (i := 611) (by decide +kernel)) rfl
theorem m_612 : Cond.methodLink "IharaZeta" 223 ⟨"IharaZeta$EdgePolynomial","coefficientAroundOne","(I)J"⟩ ∈ tbG := tbG_in (List.mem_of_getElem? (i := 612) (by decide +kernel)) rfl
theorem m_613 : Cond.instanceMethod ⟨"IharaZeta$EdgePolynomial","coefficientAroundOne","(I)J"⟩ ∈ tbG := tbG_in (List.mem_of_getElem? (i := 613) (by decide +kernel)) rfl
theorem m_614 : Cond.selects "IharaZeta$EdgePolynomial" ⟨"IharaZeta$EdgePolynomial","coefficientAroundOne","(I)J"⟩ ⟨"IharaZeta$EdgePolynomial","coefficientAroundOne","(I)J"⟩ ∈ tbG := tbG_in (List.mem_of_getElem? (i := 614) (by decide +kernel)) rfl
theorem m_615 : Cond.code ⟨"IharaZeta$EdgePolynomial","coefficientAroundOne","(I)J"⟩ prog_2_method_5_code 4 (some FieldType.long) ∈ tbG := tbG_in (List.mem_of_getElem? (i := 615) (by decide +kernel)) rfl
theorem m_616 : Cond.methodLink "IharaZeta$EdgePolynomial" 18 ⟨"java/lang/System","arraycopy","(Ljava/lang/Object;ILjava/lang/Object;II)V"⟩ ∈ tbG := tbG_in (List.mem_of_getElem? (i := 616) (by decide +kernel)) rfl
theorem m_617 : Cond.methodLink "IharaZetaLaw" 146 ⟨"IharaZeta","edgeDegree","()I"⟩ ∈ tbG := tbG_in (List.mem_of_getElem? (i := 617) (by decide +kernel)) rfl
theorem m_618 : Cond.instanceMethod ⟨"IharaZeta","edgeDegree","()I"⟩ ∈ tbG := tbG_in (List.mem_of_getElem? (i := 618) (by decide +kernel)) rfl
theorem m_619 : Cond.selects "IharaZeta" ⟨"IharaZeta","edgeDegree","()I"⟩ ⟨"IharaZeta","edgeDegree","()I"⟩ ∈ tbG := tbG_in (List.mem_of_getElem? (i := 619) (by decide +kernel)) rfl
theorem m_620 : Cond.code ⟨"IharaZeta","edgeDegree","()I"⟩ prog_1_method_34_code 1 (some FieldType.int) ∈ tbG := tbG_in (List.mem_of_getElem? (i := 620) (by decide +kernel)) rfl
theorem m_621 : Cond.methodLink "IharaZeta" 226 ⟨"IharaZeta$EdgePolynomial","highestPower","()I"⟩ ∈ tbG := tbG_in (List.mem_of_getElem? (i := 621) (by decide +kernel)) rfl
theorem m_622 : Cond.instanceMethod ⟨"IharaZeta$EdgePolynomial","highestPower","()I"⟩ ∈ tbG := tbG_in (List.mem_of_getElem? (i := 622) (by decide +kernel)) rfl
theorem m_623 : Cond.selects "IharaZeta$EdgePolynomial" ⟨"IharaZeta$EdgePolynomial","highestPower","()I"⟩ ⟨"IharaZeta$EdgePolynomial","highestPower","()I"⟩ ∈ tbG := tbG_in (List.mem_of_getElem? (i := 623) (by decide +kernel)) rfl
theorem m_624 : Cond.code ⟨"IharaZeta$EdgePolynomial","highestPower","()I"⟩ prog_2_method_6_code 2 (some FieldType.int) ∈ tbG := tbG_in (List.mem_of_getElem? (i := 624) (by decide +kernel)) rfl
theorem m_625 : Cond.methodLink "IharaZetaLaw" 150 ⟨"IharaZeta","spanningTrees","()I"⟩ ∈ tbG := tbG_in (List.mem_of_getElem? (i := 625) (by decide +kernel)) rfl
theorem m_626 : Cond.instanceMethod ⟨"IharaZeta","spanningTrees","()I"⟩ ∈ tbG := tbG_in (List.mem_of_getElem? (i := 626) (by decide +kernel)) rfl
theorem m_627 : Cond.selects "IharaZeta" ⟨"IharaZeta","spanningTrees","()I"⟩ ⟨"IharaZeta","spanningTrees","()I"⟩ ∈ tbG := tbG_in (List.mem_of_getElem? (i := 627) (by decide +kernel)) rfl
theorem m_628 : Cond.code ⟨"IharaZeta","spanningTrees","()I"⟩ prog_1_method_35_code 1 (some FieldType.int) ∈ tbG := tbG_in (List.mem_of_getElem? (i := 628) (by decide +kernel)) rfl
theorem m_629 : Cond.methodLink "IharaZeta" 230 ⟨"IharaZeta$Grouping","countTrees","(LIharaZeta$Graph;)I"⟩ ∈ tbG := tbG_in (List.mem_of_getElem? (i := 629) (by decide +kernel)) rfl
theorem m_630 : Cond.instanceMethod ⟨"IharaZeta$Grouping","countTrees","(LIharaZeta$Graph;)I"⟩ ∈ tbG := tbG_in (List.mem_of_getElem? (i := 630) (by decide +kernel)) rfl
theorem m_631 : Cond.selects "IharaZeta$Grouping" ⟨"IharaZeta$Grouping","countTrees","(LIharaZeta$Graph;)I"⟩ ⟨"IharaZeta$Grouping","countTrees","(LIharaZeta$Graph;)I"⟩ ∈ tbG := tbG_in (List.mem_of_getElem? (i := 631) (by decide +kernel)) rfl
theorem m_632 : Cond.code ⟨"IharaZeta$Grouping","countTrees","(LIharaZeta$Graph;)I"⟩ prog_5_method_4_code 4 (some FieldType.int) ∈ tbG := tbG_in (List.mem_of_getElem? (i := 632) (by decide +kernel)) rfl
theorem m_633 : Cond.methodLink "IharaZeta$Grouping" 38 ⟨"java/lang/Integer","bitCount","(I)I"⟩ ∈ tbG := tbG_in (List.mem_of_getElem? (i := 633) (by decide +kernel)) rfl
theorem m_634 : Cond.methodLink "IharaZeta$Grouping" 44 ⟨"IharaZeta$Grouping","isForest","(LIharaZeta$Graph;I)Z"⟩ ∈ tbG := tbG_in (List.mem_of_getElem? (i := 634) (by decide +kernel)) rfl
theorem m_636 : Cond.instanceMethod ⟨"IharaZeta$Grouping","isForest","(LIharaZeta$Graph;I)Z"⟩ ∈ tbG := tbG_in (List.mem_of_getElem? (i := 636) (by decide +kernel)) rfl
theorem m_637 : Cond.code ⟨"IharaZeta$Grouping","isForest","(LIharaZeta$Graph;I)Z"⟩ prog_5_method_5_code 5 (some FieldType.boolean) ∈ tbG := tbG_in (List.mem_of_getElem? (i := 637) (by decide +kernel)) rfl
theorem m_638 : Cond.classLink "IharaZetaLaw" 10 "IharaZetaModel" ∈ tbG := tbG_in (List.mem_of_getElem? (i := 638) (by decide +kernel)) rfl
theorem m_639 : Cond.instantiable "IharaZetaModel" 22 ∈ tbG := tbG_in (List.mem_of_getElem? (i := 639) (by decide +kernel)) rfl
theorem m_640 : Cond.methodLink "IharaZetaLaw" 12 ⟨"IharaZetaModel","<init>","()V"⟩ ∈ tbG := tbG_in (List.mem_of_getElem? (i := 640) (by decide +kernel)) rfl
theorem m_641 : Cond.instanceMethod ⟨"IharaZetaModel","<init>","()V"⟩ ∈ tbG := tbG_in (List.mem_of_getElem? (i := 641) (by decide +kernel)) rfl
theorem m_642 : Cond.code ⟨"IharaZetaModel","<init>","()V"⟩ prog_11_method_1_code 1 (none : Option FieldType) ∈ tbG := tbG_in (List.mem_of_getElem? (i := 642) (by decide +kernel)) rfl
theorem m_643 : Cond.methodLink "IharaZetaModel" 1 ⟨"java/lang/Object","<init>","()V"⟩ ∈ tbG := tbG_in (List.mem_of_getElem? (i := 643) (by decide +kernel)) rfl
theorem m_644 : Cond.fieldLink "IharaZetaModel" 7 "IharaZetaModel" "now" "[I" ∈ tbG := tbG_in (List.mem_of_getElem? (i := 644) (by decide +kernel)) rfl
theorem m_645 : Cond.fieldLink "IharaZetaModel" 13 "IharaZetaModel" "read" "[I" ∈ tbG := tbG_in (List.mem_of_getElem? (i := 645) (by decide +kernel)) rfl
theorem m_646 : Cond.fieldLink "IharaZetaModel" 16 "IharaZetaModel" "past" "[I" ∈ tbG := tbG_in (List.mem_of_getElem? (i := 646) (by decide +kernel)) rfl
theorem m_647 : Cond.fieldLink "IharaZetaModel" 69 "IharaZetaModel" "saved" "I" ∈ tbG := tbG_in (List.mem_of_getElem? (i := 647) (by decide +kernel)) rfl
theorem m_648 : Cond.fieldLink "IharaZetaModel" 19 "IharaZetaModel" "text" "[I" ∈ tbG := tbG_in (List.mem_of_getElem? (i := 648) (by decide +kernel)) rfl
theorem m_649 : Cond.fieldLink "IharaZetaModel" 83 "IharaZetaModel" "letters" "I" ∈ tbG := tbG_in (List.mem_of_getElem? (i := 649) (by decide +kernel)) rfl
theorem m_650 : Cond.fieldLink "IharaZetaModel" 86 "IharaZetaModel" "stage" "I" ∈ tbG := tbG_in (List.mem_of_getElem? (i := 650) (by decide +kernel)) rfl
theorem m_651 : Cond.fieldLink "IharaZetaModel" 22 "IharaZetaModel" "part" "[I" ∈ tbG := tbG_in (List.mem_of_getElem? (i := 651) (by decide +kernel)) rfl
theorem m_652 : Cond.fieldLink "IharaZetaModel" 117 "IharaZetaModel" "size" "I" ∈ tbG := tbG_in (List.mem_of_getElem? (i := 652) (by decide +kernel)) rfl
theorem m_653 : Cond.fieldLink "IharaZetaModel" 25 "IharaZetaModel" "matrix" "[J" ∈ tbG := tbG_in (List.mem_of_getElem? (i := 653) (by decide +kernel)) rfl
theorem m_654 : Cond.fieldLink "IharaZetaModel" 29 "IharaZetaModel" "power" "[J" ∈ tbG := tbG_in (List.mem_of_getElem? (i := 654) (by decide +kernel)) rfl
theorem m_655 : Cond.fieldLink "IharaZetaModel" 32 "IharaZetaModel" "product" "[J" ∈ tbG := tbG_in (List.mem_of_getElem? (i := 655) (by decide +kernel)) rfl
theorem m_656 : Cond.fieldLink "IharaZetaModel" 35 "IharaZetaModel" "poly" "[J" ∈ tbG := tbG_in (List.mem_of_getElem? (i := 656) (by decide +kernel)) rfl
theorem m_657 : Cond.fieldLink "IharaZetaModel" 38 "IharaZetaModel" "old" "[J" ∈ tbG := tbG_in (List.mem_of_getElem? (i := 657) (by decide +kernel)) rfl
theorem m_658 : Cond.fieldLink "IharaZetaModel" 41 "IharaZetaModel" "step" "[J" ∈ tbG := tbG_in (List.mem_of_getElem? (i := 658) (by decide +kernel)) rfl
theorem m_659 : Cond.fieldLink "IharaZetaModel" 44 "IharaZetaModel" "column" "[J" ∈ tbG := tbG_in (List.mem_of_getElem? (i := 659) (by decide +kernel)) rfl
theorem m_660 : Cond.fieldLink "IharaZetaModel" 47 "IharaZetaModel" "moved" "[J" ∈ tbG := tbG_in (List.mem_of_getElem? (i := 660) (by decide +kernel)) rfl
theorem m_661 : Cond.fieldLink "IharaZetaModel" 50 "IharaZetaModel" "traces" "[J" ∈ tbG := tbG_in (List.mem_of_getElem? (i := 661) (by decide +kernel)) rfl
theorem m_662 : Cond.fieldLink "IharaZetaModel" 53 "IharaZetaModel" "signed" "[J" ∈ tbG := tbG_in (List.mem_of_getElem? (i := 662) (by decide +kernel)) rfl
theorem m_663 : Cond.fieldLink "IharaZetaModel" 56 "IharaZetaModel" "plus" "[J" ∈ tbG := tbG_in (List.mem_of_getElem? (i := 663) (by decide +kernel)) rfl
theorem m_664 : Cond.fieldLink "IharaZetaModel" 59 "IharaZetaModel" "minus" "[J" ∈ tbG := tbG_in (List.mem_of_getElem? (i := 664) (by decide +kernel)) rfl
theorem m_665 : Cond.fieldLink "IharaZetaModel" 62 "IharaZetaModel" "walk" "[I" ∈ tbG := tbG_in (List.mem_of_getElem? (i := 665) (by decide +kernel)) rfl
theorem m_666 : Cond.laysFinal "IharaZetaModel" "IharaZetaModel" "now" "[I" ∈ tbG := tbG_in (List.mem_of_getElem? (i := 666) (by decide +kernel)) rfl
theorem m_668 : Cond.laysFinal "IharaZetaModel" "IharaZetaModel" "read" "[I" ∈ tbG := tbG_in (List.mem_of_getElem? (i := 668) (by decide +kernel)) rfl
theorem m_670 : Cond.laysFinal "IharaZetaModel" "IharaZetaModel" "past" "[I" ∈ tbG := tbG_in (List.mem_of_getElem? (i := 670) (by decide +kernel)) rfl
theorem m_672 : Cond.lays "IharaZetaModel" "IharaZetaModel" "saved" "I" ∈ tbG := tbG_in (List.mem_of_getElem? (i := 672) (by decide +kernel)) rfl
theorem m_674 : Cond.laysFinal "IharaZetaModel" "IharaZetaModel" "text" "[I" ∈ tbG := tbG_in (List.mem_of_getElem? (i := 674) (by decide +kernel)) rfl
theorem m_676 : Cond.lays "IharaZetaModel" "IharaZetaModel" "letters" "I" ∈ tbG := tbG_in (List.mem_of_getElem? (i := 676) (by decide +kernel)) rfl
theorem m_678 : Cond.lays "IharaZetaModel" "IharaZetaModel" "stage" "I" ∈ tbG := tbG_in (List.mem_of_getElem? (i := 678) (by decide +kernel)) rfl
theorem m_680 : Cond.laysFinal "IharaZetaModel" "IharaZetaModel" "part" "[I" ∈ tbG := tbG_in (List.mem_of_getElem? (i := 680) (by decide +kernel)) rfl
theorem m_682 : Cond.lays "IharaZetaModel" "IharaZetaModel" "size" "I" ∈ tbG := tbG_in (List.mem_of_getElem? (i := 682) (by decide +kernel)) rfl
theorem m_684 : Cond.laysFinal "IharaZetaModel" "IharaZetaModel" "matrix" "[J" ∈ tbG := tbG_in (List.mem_of_getElem? (i := 684) (by decide +kernel)) rfl
theorem m_686 : Cond.laysFinal "IharaZetaModel" "IharaZetaModel" "power" "[J" ∈ tbG := tbG_in (List.mem_of_getElem? (i := 686) (by decide +kernel)) rfl
theorem m_688 : Cond.laysFinal "IharaZetaModel" "IharaZetaModel" "product" "[J" ∈ tbG := tbG_in (List.mem_of_getElem? (i := 688) (by decide +kernel)) rfl
theorem m_690 : Cond.laysFinal "IharaZetaModel" "IharaZetaModel" "poly" "[J" ∈ tbG := tbG_in (List.mem_of_getElem? (i := 690) (by decide +kernel)) rfl
theorem m_692 : Cond.laysFinal "IharaZetaModel" "IharaZetaModel" "old" "[J" ∈ tbG := tbG_in (List.mem_of_getElem? (i := 692) (by decide +kernel)) rfl
theorem m_694 : Cond.laysFinal "IharaZetaModel" "IharaZetaModel" "step" "[J" ∈ tbG := tbG_in (List.mem_of_getElem? (i := 694) (by decide +kernel)) rfl
theorem m_696 : Cond.laysFinal "IharaZetaModel" "IharaZetaModel" "column" "[J" ∈ tbG := tbG_in (List.mem_of_getElem? (i := 696) (by decide +kernel)) rfl
theorem m_698 : Cond.laysFinal "IharaZetaModel" "IharaZetaModel" "moved" "[J" ∈ tbG := tbG_in (List.mem_of_getElem? (i := 698) (by decide +kernel)) rfl
theorem m_700 : Cond.laysFinal "IharaZetaModel" "IharaZetaModel" "traces" "[J" ∈ tbG := tbG_in (List.mem_of_getElem? (i := 700) (by decide +kernel)) rfl
theorem m_702 : Cond.laysFinal "IharaZetaModel" "IharaZetaModel" "signed" "[J" ∈ tbG := tbG_in (List.mem_of_getElem? (i := 702) (by decide +kernel)) rfl
theorem m_704 : Cond.laysFinal "IharaZetaModel" "IharaZetaModel" "plus" "[J" ∈ tbG := tbG_in (List.mem_of_getElem? (i := 704) (by decide +kernel)) rfl
theorem m_706 : Cond.laysFinal "IharaZetaModel" "IharaZetaModel" "minus" "[J" ∈ tbG := tbG_in (List.mem_of_getElem? (i := 706) (by decide +kernel)) rfl
theorem m_708 : Cond.laysFinal "IharaZetaModel" "IharaZetaModel" "walk" "[I" ∈ tbG := tbG_in (List.mem_of_getElem? (i := 708) (by decide +kernel)) rfl
theorem m_711 : Cond.methodLink "IharaZetaLaw" 17 ⟨"IharaZetaModel","configure","(I)I"⟩ ∈ tbG := tbG_in (List.mem_of_getElem? (i := 711) (by decide +kernel)) rfl
theorem m_712 : Cond.instanceMethod ⟨"IharaZetaModel","configure","(I)I"⟩ ∈ tbG := tbG_in (List.mem_of_getElem? (i := 712) (by decide +kernel)) rfl
theorem m_713 : Cond.selects "IharaZetaModel" ⟨"IharaZetaModel","configure","(I)I"⟩ ⟨"IharaZetaModel","configure","(I)I"⟩ ∈ tbG := tbG_in (List.mem_of_getElem? (i := 713) (by decide +kernel)) rfl
theorem m_714 : Cond.code ⟨"IharaZetaModel","configure","(I)I"⟩ prog_11_method_8_code 3 (some FieldType.int) ∈ tbG := tbG_in (List.mem_of_getElem? (i := 714) (by decide +kernel)) rfl
theorem m_715 : Cond.methodLink "IharaZetaModel" 65 ⟨"IharaZetaModel","in","(III)Z"⟩ ∈ tbG := tbG_in (List.mem_of_getElem? (i := 715) (by decide +kernel)) rfl
theorem m_716 : Cond.static ⟨"IharaZetaModel","in","(III)Z"⟩ ∈ tbG := tbG_in (List.mem_of_getElem? (i := 716) (by decide +kernel)) rfl
theorem m_717 : Cond.code ⟨"IharaZetaModel","in","(III)Z"⟩ prog_11_method_3_code 3 (some FieldType.boolean) ∈ tbG := tbG_in (List.mem_of_getElem? (i := 717) (by decide +kernel)) rfl
theorem m_718 : Cond.methodLink "IharaZetaModel" 73 ⟨"IharaZetaModel","save","()V"⟩ ∈ tbG := tbG_in (List.mem_of_getElem? (i := 718) (by decide +kernel)) rfl
theorem m_720 : Cond.instanceMethod ⟨"IharaZetaModel","save","()V"⟩ ∈ tbG := tbG_in (List.mem_of_getElem? (i := 720) (by decide +kernel)) rfl
theorem m_721 : Cond.code ⟨"IharaZetaModel","save","()V"⟩ prog_11_method_7_code 2 (none : Option FieldType) ∈ tbG := tbG_in (List.mem_of_getElem? (i := 721) (by decide +kernel)) rfl
theorem m_722 : Cond.methodLink "IharaZetaLaw" 22 ⟨"IharaZetaModel","addEdge","(III)I"⟩ ∈ tbG := tbG_in (List.mem_of_getElem? (i := 722) (by decide +kernel)) rfl
theorem m_723 : Cond.instanceMethod ⟨"IharaZetaModel","addEdge","(III)I"⟩ ∈ tbG := tbG_in (List.mem_of_getElem? (i := 723) (by decide +kernel)) rfl
theorem m_724 : Cond.selects "IharaZetaModel" ⟨"IharaZetaModel","addEdge","(III)I"⟩ ⟨"IharaZetaModel","addEdge","(III)I"⟩ ∈ tbG := tbG_in (List.mem_of_getElem? (i := 724) (by decide +kernel)) rfl
theorem m_725 : Cond.code ⟨"IharaZetaModel","addEdge","(III)I"⟩ prog_11_method_9_code 5 (some FieldType.int) ∈ tbG := tbG_in (List.mem_of_getElem? (i := 725) (by decide +kernel)) rfl
theorem m_726 : Cond.methodLink "IharaZetaModel" 76 ⟨"IharaZetaModel","isVertex","(I)Z"⟩ ∈ tbG := tbG_in (List.mem_of_getElem? (i := 726) (by decide +kernel)) rfl
theorem m_728 : Cond.instanceMethod ⟨"IharaZetaModel","isVertex","(I)Z"⟩ ∈ tbG := tbG_in (List.mem_of_getElem? (i := 728) (by decide +kernel)) rfl
theorem m_729 : Cond.code ⟨"IharaZetaModel","isVertex","(I)Z"⟩ prog_11_method_4_code 2 (some FieldType.boolean) ∈ tbG := tbG_in (List.mem_of_getElem? (i := 729) (by decide +kernel)) rfl
theorem m_730 : Cond.methodLink "IharaZetaLaw" 26 ⟨"IharaZetaModel","removeEdge","(I)I"⟩ ∈ tbG := tbG_in (List.mem_of_getElem? (i := 730) (by decide +kernel)) rfl
theorem m_731 : Cond.instanceMethod ⟨"IharaZetaModel","removeEdge","(I)I"⟩ ∈ tbG := tbG_in (List.mem_of_getElem? (i := 731) (by decide +kernel)) rfl
theorem m_732 : Cond.selects "IharaZetaModel" ⟨"IharaZetaModel","removeEdge","(I)I"⟩ ⟨"IharaZetaModel","removeEdge","(I)I"⟩ ∈ tbG := tbG_in (List.mem_of_getElem? (i := 732) (by decide +kernel)) rfl
theorem m_733 : Cond.code ⟨"IharaZetaModel","removeEdge","(I)I"⟩ prog_11_method_10_code 3 (some FieldType.int) ∈ tbG := tbG_in (List.mem_of_getElem? (i := 733) (by decide +kernel)) rfl
theorem m_734 : Cond.methodLink "IharaZetaModel" 80 ⟨"IharaZetaModel","isEdge","(I)Z"⟩ ∈ tbG := tbG_in (List.mem_of_getElem? (i := 734) (by decide +kernel)) rfl
theorem m_736 : Cond.instanceMethod ⟨"IharaZetaModel","isEdge","(I)Z"⟩ ∈ tbG := tbG_in (List.mem_of_getElem? (i := 736) (by decide +kernel)) rfl
theorem m_737 : Cond.code ⟨"IharaZetaModel","isEdge","(I)Z"⟩ prog_11_method_5_code 2 (some FieldType.boolean) ∈ tbG := tbG_in (List.mem_of_getElem? (i := 737) (by decide +kernel)) rfl
theorem m_738 : Cond.methodLink "IharaZetaLaw" 30 ⟨"IharaZetaModel","flipSign","(I)I"⟩ ∈ tbG := tbG_in (List.mem_of_getElem? (i := 738) (by decide +kernel)) rfl
theorem m_739 : Cond.instanceMethod ⟨"IharaZetaModel","flipSign","(I)I"⟩ ∈ tbG := tbG_in (List.mem_of_getElem? (i := 739) (by decide +kernel)) rfl
theorem m_740 : Cond.selects "IharaZetaModel" ⟨"IharaZetaModel","flipSign","(I)I"⟩ ⟨"IharaZetaModel","flipSign","(I)I"⟩ ∈ tbG := tbG_in (List.mem_of_getElem? (i := 740) (by decide +kernel)) rfl
theorem m_741 : Cond.code ⟨"IharaZetaModel","flipSign","(I)I"⟩ prog_11_method_11_code 3 (some FieldType.int) ∈ tbG := tbG_in (List.mem_of_getElem? (i := 741) (by decide +kernel)) rfl
theorem m_742 : Cond.methodLink "IharaZetaLaw" 34 ⟨"IharaZetaModel","appendCharacter","(I)I"⟩ ∈ tbG := tbG_in (List.mem_of_getElem? (i := 742) (by decide +kernel)) rfl
theorem m_743 : Cond.instanceMethod ⟨"IharaZetaModel","appendCharacter","(I)I"⟩ ∈ tbG := tbG_in (List.mem_of_getElem? (i := 743) (by decide +kernel)) rfl
theorem m_744 : Cond.selects "IharaZetaModel" ⟨"IharaZetaModel","appendCharacter","(I)I"⟩ ⟨"IharaZetaModel","appendCharacter","(I)I"⟩ ∈ tbG := tbG_in (List.mem_of_getElem? (i := 744) (by decide +kernel)) rfl
theorem m_745 : Cond.code ⟨"IharaZetaModel","appendCharacter","(I)I"⟩ prog_11_method_12_code 2 (some FieldType.int) ∈ tbG := tbG_in (List.mem_of_getElem? (i := 745) (by decide +kernel)) rfl
theorem m_746 : Cond.methodLink "IharaZetaLaw" 39 ⟨"IharaZetaModel","clearText","()I"⟩ ∈ tbG := tbG_in (List.mem_of_getElem? (i := 746) (by decide +kernel)) rfl
theorem m_747 : Cond.instanceMethod ⟨"IharaZetaModel","clearText","()I"⟩ ∈ tbG := tbG_in (List.mem_of_getElem? (i := 747) (by decide +kernel)) rfl
theorem m_748 : Cond.selects "IharaZetaModel" ⟨"IharaZetaModel","clearText","()I"⟩ ⟨"IharaZetaModel","clearText","()I"⟩ ∈ tbG := tbG_in (List.mem_of_getElem? (i := 748) (by decide +kernel)) rfl
theorem m_749 : Cond.code ⟨"IharaZetaModel","clearText","()I"⟩ prog_11_method_13_code 2 (some FieldType.int) ∈ tbG := tbG_in (List.mem_of_getElem? (i := 749) (by decide +kernel)) rfl
theorem m_750 : Cond.methodLink "IharaZetaLaw" 43 ⟨"IharaZetaModel","loadGraph","()I"⟩ ∈ tbG := tbG_in (List.mem_of_getElem? (i := 750) (by decide +kernel)) rfl
theorem m_751 : Cond.instanceMethod ⟨"IharaZetaModel","loadGraph","()I"⟩ ∈ tbG := tbG_in (List.mem_of_getElem? (i := 751) (by decide +kernel)) rfl
theorem m_752 : Cond.selects "IharaZetaModel" ⟨"IharaZetaModel","loadGraph","()I"⟩ ⟨"IharaZetaModel","loadGraph","()I"⟩ ∈ tbG := tbG_in (List.mem_of_getElem? (i := 752) (by decide +kernel)) rfl
theorem m_753 : Cond.code ⟨"IharaZetaModel","loadGraph","()I"⟩ prog_11_method_16_code 3 (some FieldType.int) ∈ tbG := tbG_in (List.mem_of_getElem? (i := 753) (by decide +kernel)) rfl
theorem m_754 : Cond.methodLink "IharaZetaModel" 92 ⟨"IharaZetaModel","reads","()I"⟩ ∈ tbG := tbG_in (List.mem_of_getElem? (i := 754) (by decide +kernel)) rfl
theorem m_756 : Cond.instanceMethod ⟨"IharaZetaModel","reads","()I"⟩ ∈ tbG := tbG_in (List.mem_of_getElem? (i := 756) (by decide +kernel)) rfl
theorem m_757 : Cond.code ⟨"IharaZetaModel","reads","()I"⟩ prog_11_method_15_code 2 (some FieldType.int) ∈ tbG := tbG_in (List.mem_of_getElem? (i := 757) (by decide +kernel)) rfl
theorem m_758 : Cond.methodLink "IharaZetaModel" 89 ⟨"IharaZetaModel","takes","(I)Z"⟩ ∈ tbG := tbG_in (List.mem_of_getElem? (i := 758) (by decide +kernel)) rfl
theorem m_760 : Cond.instanceMethod ⟨"IharaZetaModel","takes","(I)Z"⟩ ∈ tbG := tbG_in (List.mem_of_getElem? (i := 760) (by decide +kernel)) rfl
theorem m_761 : Cond.code ⟨"IharaZetaModel","takes","(I)Z"⟩ prog_11_method_14_code 3 (some FieldType.boolean) ∈ tbG := tbG_in (List.mem_of_getElem? (i := 761) (by decide +kernel)) rfl
theorem m_762 : Cond.methodLink "IharaZetaLaw" 47 ⟨"IharaZetaModel","undo","()I"⟩ ∈ tbG := tbG_in (List.mem_of_getElem? (i := 762) (by decide +kernel)) rfl
theorem m_763 : Cond.instanceMethod ⟨"IharaZetaModel","undo","()I"⟩ ∈ tbG := tbG_in (List.mem_of_getElem? (i := 763) (by decide +kernel)) rfl
theorem m_764 : Cond.selects "IharaZetaModel" ⟨"IharaZetaModel","undo","()I"⟩ ⟨"IharaZetaModel","undo","()I"⟩ ∈ tbG := tbG_in (List.mem_of_getElem? (i := 764) (by decide +kernel)) rfl
theorem m_765 : Cond.code ⟨"IharaZetaModel","undo","()I"⟩ prog_11_method_17_code 2 (some FieldType.int) ∈ tbG := tbG_in (List.mem_of_getElem? (i := 765) (by decide +kernel)) rfl
theorem m_766 : Cond.methodLink "IharaZetaLaw" 51 ⟨"IharaZetaModel","vertexCount","()I"⟩ ∈ tbG := tbG_in (List.mem_of_getElem? (i := 766) (by decide +kernel)) rfl
theorem m_767 : Cond.instanceMethod ⟨"IharaZetaModel","vertexCount","()I"⟩ ∈ tbG := tbG_in (List.mem_of_getElem? (i := 767) (by decide +kernel)) rfl
theorem m_768 : Cond.selects "IharaZetaModel" ⟨"IharaZetaModel","vertexCount","()I"⟩ ⟨"IharaZetaModel","vertexCount","()I"⟩ ∈ tbG := tbG_in (List.mem_of_getElem? (i := 768) (by decide +kernel)) rfl
theorem m_769 : Cond.code ⟨"IharaZetaModel","vertexCount","()I"⟩ prog_11_method_18_code 1 (some FieldType.int) ∈ tbG := tbG_in (List.mem_of_getElem? (i := 769) (by decide +kernel)) rfl
theorem m_770 : Cond.methodLink "IharaZetaLaw" 55 ⟨"IharaZetaModel","edgeCount","()I"⟩ ∈ tbG := tbG_in (List.mem_of_getElem? (i := 770) (by decide +kernel)) rfl
theorem m_771 : Cond.instanceMethod ⟨"IharaZetaModel","edgeCount","()I"⟩ ∈ tbG := tbG_in (List.mem_of_getElem? (i := 771) (by decide +kernel)) rfl
theorem m_772 : Cond.selects "IharaZetaModel" ⟨"IharaZetaModel","edgeCount","()I"⟩ ⟨"IharaZetaModel","edgeCount","()I"⟩ ∈ tbG := tbG_in (List.mem_of_getElem? (i := 772) (by decide +kernel)) rfl
theorem m_773 : Cond.code ⟨"IharaZetaModel","edgeCount","()I"⟩ prog_11_method_19_code 1 (some FieldType.int) ∈ tbG := tbG_in (List.mem_of_getElem? (i := 773) (by decide +kernel)) rfl
theorem m_774 : Cond.methodLink "IharaZetaLaw" 59 ⟨"IharaZetaModel","headOf","(I)I"⟩ ∈ tbG := tbG_in (List.mem_of_getElem? (i := 774) (by decide +kernel)) rfl
theorem m_775 : Cond.instanceMethod ⟨"IharaZetaModel","headOf","(I)I"⟩ ∈ tbG := tbG_in (List.mem_of_getElem? (i := 775) (by decide +kernel)) rfl
theorem m_776 : Cond.selects "IharaZetaModel" ⟨"IharaZetaModel","headOf","(I)I"⟩ ⟨"IharaZetaModel","headOf","(I)I"⟩ ∈ tbG := tbG_in (List.mem_of_getElem? (i := 776) (by decide +kernel)) rfl
theorem m_777 : Cond.code ⟨"IharaZetaModel","headOf","(I)I"⟩ prog_11_method_23_code 2 (some FieldType.int) ∈ tbG := tbG_in (List.mem_of_getElem? (i := 777) (by decide +kernel)) rfl
theorem m_778 : Cond.methodLink "IharaZetaModel" 100 ⟨"IharaZetaModel","isDirected","(I)Z"⟩ ∈ tbG := tbG_in (List.mem_of_getElem? (i := 778) (by decide +kernel)) rfl
theorem m_780 : Cond.instanceMethod ⟨"IharaZetaModel","isDirected","(I)Z"⟩ ∈ tbG := tbG_in (List.mem_of_getElem? (i := 780) (by decide +kernel)) rfl
theorem m_781 : Cond.code ⟨"IharaZetaModel","isDirected","(I)Z"⟩ prog_11_method_6_code 2 (some FieldType.boolean) ∈ tbG := tbG_in (List.mem_of_getElem? (i := 781) (by decide +kernel)) rfl
theorem m_782 : Cond.methodLink "IharaZetaModel" 96 ⟨"IharaZetaModel","endOf","(II)I"⟩ ∈ tbG := tbG_in (List.mem_of_getElem? (i := 782) (by decide +kernel)) rfl
theorem m_784 : Cond.instanceMethod ⟨"IharaZetaModel","endOf","(II)I"⟩ ∈ tbG := tbG_in (List.mem_of_getElem? (i := 784) (by decide +kernel)) rfl
theorem m_785 : Cond.code ⟨"IharaZetaModel","endOf","(II)I"⟩ prog_11_method_20_code 3 (some FieldType.int) ∈ tbG := tbG_in (List.mem_of_getElem? (i := 785) (by decide +kernel)) rfl
theorem m_786 : Cond.methodLink "IharaZetaLaw" 64 ⟨"IharaZetaModel","follows","(II)I"⟩ ∈ tbG := tbG_in (List.mem_of_getElem? (i := 786) (by decide +kernel)) rfl
theorem m_787 : Cond.instanceMethod ⟨"IharaZetaModel","follows","(II)I"⟩ ∈ tbG := tbG_in (List.mem_of_getElem? (i := 787) (by decide +kernel)) rfl
theorem m_788 : Cond.selects "IharaZetaModel" ⟨"IharaZetaModel","follows","(II)I"⟩ ⟨"IharaZetaModel","follows","(II)I"⟩ ∈ tbG := tbG_in (List.mem_of_getElem? (i := 788) (by decide +kernel)) rfl
theorem m_789 : Cond.code ⟨"IharaZetaModel","follows","(II)I"⟩ prog_11_method_24_code 3 (some FieldType.int) ∈ tbG := tbG_in (List.mem_of_getElem? (i := 789) (by decide +kernel)) rfl
theorem m_790 : Cond.methodLink "IharaZetaModel" 103 ⟨"IharaZetaModel","isNext","(II)Z"⟩ ∈ tbG := tbG_in (List.mem_of_getElem? (i := 790) (by decide +kernel)) rfl
theorem m_792 : Cond.instanceMethod ⟨"IharaZetaModel","isNext","(II)Z"⟩ ∈ tbG := tbG_in (List.mem_of_getElem? (i := 792) (by decide +kernel)) rfl
theorem m_793 : Cond.code ⟨"IharaZetaModel","isNext","(II)Z"⟩ prog_11_method_22_code 3 (some FieldType.boolean) ∈ tbG := tbG_in (List.mem_of_getElem? (i := 793) (by decide +kernel)) rfl
theorem m_794 : Cond.methodLink "IharaZetaLaw" 68 ⟨"IharaZetaModel","degree","(I)I"⟩ ∈ tbG := tbG_in (List.mem_of_getElem? (i := 794) (by decide +kernel)) rfl
theorem m_795 : Cond.instanceMethod ⟨"IharaZetaModel","degree","(I)I"⟩ ∈ tbG := tbG_in (List.mem_of_getElem? (i := 795) (by decide +kernel)) rfl
theorem m_796 : Cond.selects "IharaZetaModel" ⟨"IharaZetaModel","degree","(I)I"⟩ ⟨"IharaZetaModel","degree","(I)I"⟩ ∈ tbG := tbG_in (List.mem_of_getElem? (i := 796) (by decide +kernel)) rfl
theorem m_797 : Cond.code ⟨"IharaZetaModel","degree","(I)I"⟩ prog_11_method_26_code 2 (some FieldType.int) ∈ tbG := tbG_in (List.mem_of_getElem? (i := 797) (by decide +kernel)) rfl
theorem m_798 : Cond.methodLink "IharaZetaModel" 107 ⟨"IharaZetaModel","degreeOf","(I)I"⟩ ∈ tbG := tbG_in (List.mem_of_getElem? (i := 798) (by decide +kernel)) rfl
theorem m_800 : Cond.instanceMethod ⟨"IharaZetaModel","degreeOf","(I)I"⟩ ∈ tbG := tbG_in (List.mem_of_getElem? (i := 800) (by decide +kernel)) rfl
theorem m_801 : Cond.code ⟨"IharaZetaModel","degreeOf","(I)I"⟩ prog_11_method_25_code 4 (some FieldType.int) ∈ tbG := tbG_in (List.mem_of_getElem? (i := 801) (by decide +kernel)) rfl
theorem m_802 : Cond.methodLink "IharaZetaLaw" 72 ⟨"IharaZetaModel","components","()I"⟩ ∈ tbG := tbG_in (List.mem_of_getElem? (i := 802) (by decide +kernel)) rfl
theorem m_803 : Cond.instanceMethod ⟨"IharaZetaModel","components","()I"⟩ ∈ tbG := tbG_in (List.mem_of_getElem? (i := 803) (by decide +kernel)) rfl
theorem m_804 : Cond.selects "IharaZetaModel" ⟨"IharaZetaModel","components","()I"⟩ ⟨"IharaZetaModel","components","()I"⟩ ∈ tbG := tbG_in (List.mem_of_getElem? (i := 804) (by decide +kernel)) rfl
theorem m_805 : Cond.code ⟨"IharaZetaModel","components","()I"⟩ prog_11_method_28_code 1 (some FieldType.int) ∈ tbG := tbG_in (List.mem_of_getElem? (i := 805) (by decide +kernel)) rfl
theorem m_806 : Cond.methodLink "IharaZetaModel" 111 ⟨"IharaZetaModel","partsNow","()I"⟩ ∈ tbG := tbG_in (List.mem_of_getElem? (i := 806) (by decide +kernel)) rfl
theorem m_808 : Cond.instanceMethod ⟨"IharaZetaModel","partsNow","()I"⟩ ∈ tbG := tbG_in (List.mem_of_getElem? (i := 808) (by decide +kernel)) rfl
theorem m_809 : Cond.code ⟨"IharaZetaModel","partsNow","()I"⟩ prog_11_method_27_code 6 (some FieldType.int) ∈ tbG := tbG_in (List.mem_of_getElem? (i := 809) (by decide +kernel)) rfl
theorem m_810 : Cond.methodLink "IharaZetaLaw" 76 ⟨"IharaZetaModel","rank","()I"⟩ ∈ tbG := tbG_in (List.mem_of_getElem? (i := 810) (by decide +kernel)) rfl
theorem m_811 : Cond.instanceMethod ⟨"IharaZetaModel","rank","()I"⟩ ∈ tbG := tbG_in (List.mem_of_getElem? (i := 811) (by decide +kernel)) rfl
theorem m_812 : Cond.selects "IharaZetaModel" ⟨"IharaZetaModel","rank","()I"⟩ ⟨"IharaZetaModel","rank","()I"⟩ ∈ tbG := tbG_in (List.mem_of_getElem? (i := 812) (by decide +kernel)) rfl
theorem m_813 : Cond.code ⟨"IharaZetaModel","rank","()I"⟩ prog_11_method_29_code 1 (some FieldType.int) ∈ tbG := tbG_in (List.mem_of_getElem? (i := 813) (by decide +kernel)) rfl
theorem m_814 : Cond.methodLink "IharaZetaLaw" 80 ⟨"IharaZetaModel","isBalanced","()I"⟩ ∈ tbG := tbG_in (List.mem_of_getElem? (i := 814) (by decide +kernel)) rfl
theorem m_815 : Cond.instanceMethod ⟨"IharaZetaModel","isBalanced","()I"⟩ ∈ tbG := tbG_in (List.mem_of_getElem? (i := 815) (by decide +kernel)) rfl
theorem m_816 : Cond.selects "IharaZetaModel" ⟨"IharaZetaModel","isBalanced","()I"⟩ ⟨"IharaZetaModel","isBalanced","()I"⟩ ∈ tbG := tbG_in (List.mem_of_getElem? (i := 816) (by decide +kernel)) rfl
theorem m_817 : Cond.code ⟨"IharaZetaModel","isBalanced","()I"⟩ prog_11_method_30_code 5 (some FieldType.int) ∈ tbG := tbG_in (List.mem_of_getElem? (i := 817) (by decide +kernel)) rfl
theorem m_818 : Cond.methodLink "IharaZetaModel" 114 ⟨"IharaZetaModel","signOf","(I)I"⟩ ∈ tbG := tbG_in (List.mem_of_getElem? (i := 818) (by decide +kernel)) rfl
theorem m_820 : Cond.instanceMethod ⟨"IharaZetaModel","signOf","(I)I"⟩ ∈ tbG := tbG_in (List.mem_of_getElem? (i := 820) (by decide +kernel)) rfl
theorem m_821 : Cond.code ⟨"IharaZetaModel","signOf","(I)I"⟩ prog_11_method_21_code 2 (some FieldType.int) ∈ tbG := tbG_in (List.mem_of_getElem? (i := 821) (by decide +kernel)) rfl
theorem m_822 : Cond.methodLink "IharaZetaLaw" 85 ⟨"IharaZetaModel","walks","(I)J"⟩ ∈ tbG := tbG_in (List.mem_of_getElem? (i := 822) (by decide +kernel)) rfl
theorem m_823 : Cond.instanceMethod ⟨"IharaZetaModel","walks","(I)J"⟩ ∈ tbG := tbG_in (List.mem_of_getElem? (i := 823) (by decide +kernel)) rfl
theorem m_824 : Cond.selects "IharaZetaModel" ⟨"IharaZetaModel","walks","(I)J"⟩ ⟨"IharaZetaModel","walks","(I)J"⟩ ∈ tbG := tbG_in (List.mem_of_getElem? (i := 824) (by decide +kernel)) rfl
theorem m_825 : Cond.code ⟨"IharaZetaModel","walks","(I)J"⟩ prog_11_method_43_code 2 (some FieldType.long) ∈ tbG := tbG_in (List.mem_of_getElem? (i := 825) (by decide +kernel)) rfl
theorem m_826 : Cond.methodLink "IharaZetaModel" 145 ⟨"IharaZetaModel","isLength","(I)Z"⟩ ∈ tbG := tbG_in (List.mem_of_getElem? (i := 826) (by decide +kernel)) rfl
theorem m_827 : Cond.static ⟨"IharaZetaModel","isLength","(I)Z"⟩ ∈ tbG := tbG_in (List.mem_of_getElem? (i := 827) (by decide +kernel)) rfl
theorem m_828 : Cond.code ⟨"IharaZetaModel","isLength","(I)Z"⟩ prog_11_method_41_code 1 (some FieldType.boolean) ∈ tbG := tbG_in (List.mem_of_getElem? (i := 828) (by decide +kernel)) rfl
theorem m_829 : Cond.methodLink "IharaZetaModel" 148 ⟨"IharaZetaModel","walksOf","(ZI)J"⟩ ∈ tbG := tbG_in (List.mem_of_getElem? (i := 829) (by decide +kernel)) rfl
theorem m_831 : Cond.instanceMethod ⟨"IharaZetaModel","walksOf","(ZI)J"⟩ ∈ tbG := tbG_in (List.mem_of_getElem? (i := 831) (by decide +kernel)) rfl
theorem m_832 : Cond.code ⟨"IharaZetaModel","walksOf","(ZI)J"⟩ prog_11_method_42_code 3 (some FieldType.long) ∈ tbG := tbG_in (List.mem_of_getElem? (i := 832) (by decide +kernel)) rfl
theorem m_833 : Cond.methodLink "IharaZetaModel" 141 ⟨"IharaZetaModel","laysTraces","(ZI[J)V"⟩ ∈ tbG := tbG_in (List.mem_of_getElem? (i := 833) (by decide +kernel)) rfl
theorem m_835 : Cond.instanceMethod ⟨"IharaZetaModel","laysTraces","(ZI[J)V"⟩ ∈ tbG := tbG_in (List.mem_of_getElem? (i := 835) (by decide +kernel)) rfl
theorem m_836 : Cond.code ⟨"IharaZetaModel","laysTraces","(ZI[J)V"⟩ prog_11_method_40_code 6 (none : Option FieldType) ∈ tbG := tbG_in (List.mem_of_getElem? (i := 836) (by decide +kernel)) rfl
theorem m_837 : Cond.methodLink "IharaZetaModel" 128 ⟨"IharaZetaModel","laysEdges","(Z)V"⟩ ∈ tbG := tbG_in (List.mem_of_getElem? (i := 837) (by decide +kernel)) rfl
theorem m_839 : Cond.instanceMethod ⟨"IharaZetaModel","laysEdges","(Z)V"⟩ ∈ tbG := tbG_in (List.mem_of_getElem? (i := 839) (by decide +kernel)) rfl
theorem m_840 : Cond.code ⟨"IharaZetaModel","laysEdges","(Z)V"⟩ prog_11_method_31_code 6 (none : Option FieldType) ∈ tbG := tbG_in (List.mem_of_getElem? (i := 840) (by decide +kernel)) rfl
theorem m_841 : Cond.methodLink "IharaZetaModel" 138 ⟨"IharaZetaModel","goesOn","()V"⟩ ∈ tbG := tbG_in (List.mem_of_getElem? (i := 841) (by decide +kernel)) rfl
theorem m_843 : Cond.instanceMethod ⟨"IharaZetaModel","goesOn","()V"⟩ ∈ tbG := tbG_in (List.mem_of_getElem? (i := 843) (by decide +kernel)) rfl
theorem m_844 : Cond.code ⟨"IharaZetaModel","goesOn","()V"⟩ prog_11_method_39_code 6 (none : Option FieldType) ∈ tbG := tbG_in (List.mem_of_getElem? (i := 844) (by decide +kernel)) rfl
theorem m_845 : Cond.constantLong "IharaZetaModel" 152 (-9223372036854775808 : Int64) ∈ tbG := tbG_in (List.mem_of_getElem? (i := 845) (by decide +kernel)) rfl
theorem m_846 : Cond.methodLink "IharaZetaLaw" 89 ⟨"IharaZetaModel","signedWalks","(I)J"⟩ ∈ tbG := tbG_in (List.mem_of_getElem? (i := 846) (by decide +kernel)) rfl
theorem m_847 : Cond.instanceMethod ⟨"IharaZetaModel","signedWalks","(I)J"⟩ ∈ tbG := tbG_in (List.mem_of_getElem? (i := 847) (by decide +kernel)) rfl
theorem m_848 : Cond.selects "IharaZetaModel" ⟨"IharaZetaModel","signedWalks","(I)J"⟩ ⟨"IharaZetaModel","signedWalks","(I)J"⟩ ∈ tbG := tbG_in (List.mem_of_getElem? (i := 848) (by decide +kernel)) rfl
theorem m_849 : Cond.code ⟨"IharaZetaModel","signedWalks","(I)J"⟩ prog_11_method_44_code 2 (some FieldType.long) ∈ tbG := tbG_in (List.mem_of_getElem? (i := 849) (by decide +kernel)) rfl
theorem m_850 : Cond.methodLink "IharaZetaLaw" 93 ⟨"IharaZetaModel","coverWalks","(I)J"⟩ ∈ tbG := tbG_in (List.mem_of_getElem? (i := 850) (by decide +kernel)) rfl
theorem m_851 : Cond.instanceMethod ⟨"IharaZetaModel","coverWalks","(I)J"⟩ ∈ tbG := tbG_in (List.mem_of_getElem? (i := 851) (by decide +kernel)) rfl
theorem m_852 : Cond.selects "IharaZetaModel" ⟨"IharaZetaModel","coverWalks","(I)J"⟩ ⟨"IharaZetaModel","coverWalks","(I)J"⟩ ∈ tbG := tbG_in (List.mem_of_getElem? (i := 852) (by decide +kernel)) rfl
theorem m_853 : Cond.code ⟨"IharaZetaModel","coverWalks","(I)J"⟩ prog_11_method_45_code 2 (some FieldType.long) ∈ tbG := tbG_in (List.mem_of_getElem? (i := 853) (by decide +kernel)) rfl
theorem m_854 : Cond.methodLink "IharaZetaLaw" 97 ⟨"IharaZetaModel","primes","(I)J"⟩ ∈ tbG := tbG_in (List.mem_of_getElem? (i := 854) (by decide +kernel)) rfl
theorem m_855 : Cond.instanceMethod ⟨"IharaZetaModel","primes","(I)J"⟩ ∈ tbG := tbG_in (List.mem_of_getElem? (i := 855) (by decide +kernel)) rfl
theorem m_856 : Cond.selects "IharaZetaModel" ⟨"IharaZetaModel","primes","(I)J"⟩ ⟨"IharaZetaModel","primes","(I)J"⟩ ∈ tbG := tbG_in (List.mem_of_getElem? (i := 856) (by decide +kernel)) rfl
theorem m_857 : Cond.code ⟨"IharaZetaModel","primes","(I)J"⟩ prog_11_method_47_code 2 (some FieldType.long) ∈ tbG := tbG_in (List.mem_of_getElem? (i := 857) (by decide +kernel)) rfl
theorem m_858 : Cond.methodLink "IharaZetaModel" 156 ⟨"IharaZetaModel","laysPrimes","(I)V"⟩ ∈ tbG := tbG_in (List.mem_of_getElem? (i := 858) (by decide +kernel)) rfl
theorem m_860 : Cond.instanceMethod ⟨"IharaZetaModel","laysPrimes","(I)V"⟩ ∈ tbG := tbG_in (List.mem_of_getElem? (i := 860) (by decide +kernel)) rfl
theorem m_861 : Cond.code ⟨"IharaZetaModel","laysPrimes","(I)V"⟩ prog_11_method_46_code 8 (none : Option FieldType) ∈ tbG := tbG_in (List.mem_of_getElem? (i := 861) (by decide +kernel)) rfl
theorem m_862 : Cond.constantLong "IharaZetaModel" 154 (2 : Int64) ∈ tbG := tbG_in (List.mem_of_getElem? (i := 862) (by decide +kernel)) rfl
theorem m_863 : Cond.methodLink "IharaZetaLaw" 101 ⟨"IharaZetaModel","positivePrimes","(I)J"⟩ ∈ tbG := tbG_in (List.mem_of_getElem? (i := 863) (by decide +kernel)) rfl
theorem m_864 : Cond.instanceMethod ⟨"IharaZetaModel","positivePrimes","(I)J"⟩ ∈ tbG := tbG_in (List.mem_of_getElem? (i := 864) (by decide +kernel)) rfl
theorem m_865 : Cond.selects "IharaZetaModel" ⟨"IharaZetaModel","positivePrimes","(I)J"⟩ ⟨"IharaZetaModel","positivePrimes","(I)J"⟩ ∈ tbG := tbG_in (List.mem_of_getElem? (i := 865) (by decide +kernel)) rfl
theorem m_866 : Cond.code ⟨"IharaZetaModel","positivePrimes","(I)J"⟩ prog_11_method_48_code 2 (some FieldType.long) ∈ tbG := tbG_in (List.mem_of_getElem? (i := 866) (by decide +kernel)) rfl
theorem m_867 : Cond.methodLink "IharaZetaLaw" 105 ⟨"IharaZetaModel","girth","()I"⟩ ∈ tbG := tbG_in (List.mem_of_getElem? (i := 867) (by decide +kernel)) rfl
theorem m_868 : Cond.instanceMethod ⟨"IharaZetaModel","girth","()I"⟩ ∈ tbG := tbG_in (List.mem_of_getElem? (i := 868) (by decide +kernel)) rfl
theorem m_869 : Cond.selects "IharaZetaModel" ⟨"IharaZetaModel","girth","()I"⟩ ⟨"IharaZetaModel","girth","()I"⟩ ∈ tbG := tbG_in (List.mem_of_getElem? (i := 869) (by decide +kernel)) rfl
theorem m_870 : Cond.code ⟨"IharaZetaModel","girth","()I"⟩ prog_11_method_49_code 2 (some FieldType.int) ∈ tbG := tbG_in (List.mem_of_getElem? (i := 870) (by decide +kernel)) rfl
theorem m_871 : Cond.methodLink "IharaZetaLaw" 109 ⟨"IharaZetaModel","period","()I"⟩ ∈ tbG := tbG_in (List.mem_of_getElem? (i := 871) (by decide +kernel)) rfl
theorem m_872 : Cond.instanceMethod ⟨"IharaZetaModel","period","()I"⟩ ∈ tbG := tbG_in (List.mem_of_getElem? (i := 872) (by decide +kernel)) rfl
theorem m_873 : Cond.selects "IharaZetaModel" ⟨"IharaZetaModel","period","()I"⟩ ⟨"IharaZetaModel","period","()I"⟩ ∈ tbG := tbG_in (List.mem_of_getElem? (i := 873) (by decide +kernel)) rfl
theorem m_874 : Cond.code ⟨"IharaZetaModel","period","()I"⟩ prog_11_method_50_code 6 (some FieldType.int) ∈ tbG := tbG_in (List.mem_of_getElem? (i := 874) (by decide +kernel)) rfl
theorem m_875 : Cond.methodLink "IharaZetaLaw" 113 ⟨"IharaZetaModel","primeEdge","(III)I"⟩ ∈ tbG := tbG_in (List.mem_of_getElem? (i := 875) (by decide +kernel)) rfl
theorem m_876 : Cond.instanceMethod ⟨"IharaZetaModel","primeEdge","(III)I"⟩ ∈ tbG := tbG_in (List.mem_of_getElem? (i := 876) (by decide +kernel)) rfl
theorem m_877 : Cond.selects "IharaZetaModel" ⟨"IharaZetaModel","primeEdge","(III)I"⟩ ⟨"IharaZetaModel","primeEdge","(III)I"⟩ ∈ tbG := tbG_in (List.mem_of_getElem? (i := 877) (by decide +kernel)) rfl
theorem m_878 : Cond.code ⟨"IharaZetaModel","primeEdge","(III)I"⟩ prog_11_method_53_code 4 (some FieldType.int) ∈ tbG := tbG_in (List.mem_of_getElem? (i := 878) (by decide +kernel)) rfl
theorem m_879 : Cond.methodLink "IharaZetaModel" 162 ⟨"IharaZetaModel","finds","(II)Z"⟩ ∈ tbG := tbG_in (List.mem_of_getElem? (i := 879) (by decide +kernel)) rfl
theorem m_881 : Cond.instanceMethod ⟨"IharaZetaModel","finds","(II)Z"⟩ ∈ tbG := tbG_in (List.mem_of_getElem? (i := 881) (by decide +kernel)) rfl
theorem m_882 : Cond.code ⟨"IharaZetaModel","finds","(II)Z"⟩ prog_11_method_52_code 5 (some FieldType.boolean) ∈ tbG := tbG_in (List.mem_of_getElem? (i := 882) (by decide +kernel)) rfl
theorem m_883 : Cond.methodLink "IharaZetaModel" 159 ⟨"IharaZetaModel","isFirst","(I)Z"⟩ ∈ tbG := tbG_in (List.mem_of_getElem? (i := 883) (by decide +kernel)) rfl
theorem m_885 : Cond.instanceMethod ⟨"IharaZetaModel","isFirst","(I)Z"⟩ ∈ tbG := tbG_in (List.mem_of_getElem? (i := 885) (by decide +kernel)) rfl
theorem m_886 : Cond.code ⟨"IharaZetaModel","isFirst","(I)Z"⟩ prog_11_method_51_code 5 (some FieldType.boolean) ∈ tbG := tbG_in (List.mem_of_getElem? (i := 886) (by decide +kernel)) rfl
theorem m_887 : Cond.methodLink "IharaZetaLaw" 117 ⟨"IharaZetaModel","primeSign","(II)I"⟩ ∈ tbG := tbG_in (List.mem_of_getElem? (i := 887) (by decide +kernel)) rfl
theorem m_888 : Cond.instanceMethod ⟨"IharaZetaModel","primeSign","(II)I"⟩ ∈ tbG := tbG_in (List.mem_of_getElem? (i := 888) (by decide +kernel)) rfl
theorem m_889 : Cond.selects "IharaZetaModel" ⟨"IharaZetaModel","primeSign","(II)I"⟩ ⟨"IharaZetaModel","primeSign","(II)I"⟩ ∈ tbG := tbG_in (List.mem_of_getElem? (i := 889) (by decide +kernel)) rfl
theorem m_890 : Cond.code ⟨"IharaZetaModel","primeSign","(II)I"⟩ prog_11_method_54_code 5 (some FieldType.int) ∈ tbG := tbG_in (List.mem_of_getElem? (i := 890) (by decide +kernel)) rfl
theorem m_891 : Cond.methodLink "IharaZetaLaw" 121 ⟨"IharaZetaModel","edgeCoefficient","(I)J"⟩ ∈ tbG := tbG_in (List.mem_of_getElem? (i := 891) (by decide +kernel)) rfl
theorem m_892 : Cond.instanceMethod ⟨"IharaZetaModel","edgeCoefficient","(I)J"⟩ ∈ tbG := tbG_in (List.mem_of_getElem? (i := 892) (by decide +kernel)) rfl
theorem m_893 : Cond.selects "IharaZetaModel" ⟨"IharaZetaModel","edgeCoefficient","(I)J"⟩ ⟨"IharaZetaModel","edgeCoefficient","(I)J"⟩ ∈ tbG := tbG_in (List.mem_of_getElem? (i := 893) (by decide +kernel)) rfl
theorem m_894 : Cond.code ⟨"IharaZetaModel","edgeCoefficient","(I)J"⟩ prog_11_method_55_code 2 (some FieldType.long) ∈ tbG := tbG_in (List.mem_of_getElem? (i := 894) (by decide +kernel)) rfl
theorem m_895 : Cond.methodLink "IharaZetaModel" 165 ⟨"IharaZetaModel","laysEdgePoly","()V"⟩ ∈ tbG := tbG_in (List.mem_of_getElem? (i := 895) (by decide +kernel)) rfl
theorem m_897 : Cond.instanceMethod ⟨"IharaZetaModel","laysEdgePoly","()V"⟩ ∈ tbG := tbG_in (List.mem_of_getElem? (i := 897) (by decide +kernel)) rfl
theorem m_898 : Cond.code ⟨"IharaZetaModel","laysEdgePoly","()V"⟩ prog_11_method_37_code 1 (none : Option FieldType) ∈ tbG := tbG_in (List.mem_of_getElem? (i := 898) (by decide +kernel)) rfl
theorem m_899 : Cond.methodLink "IharaZetaModel" 132 ⟨"IharaZetaModel","laysPoly","()V"⟩ ∈ tbG := tbG_in (List.mem_of_getElem? (i := 899) (by decide +kernel)) rfl
theorem m_901 : Cond.instanceMethod ⟨"IharaZetaModel","laysPoly","()V"⟩ ∈ tbG := tbG_in (List.mem_of_getElem? (i := 901) (by decide +kernel)) rfl
theorem m_902 : Cond.code ⟨"IharaZetaModel","laysPoly","()V"⟩ prog_11_method_36_code 4 (none : Option FieldType) ∈ tbG := tbG_in (List.mem_of_getElem? (i := 902) (by decide +kernel)) rfl
theorem m_903 : Cond.methodLink "IharaZetaModel" 120 ⟨"IharaZetaModel","clears","([J)V"⟩ ∈ tbG := tbG_in (List.mem_of_getElem? (i := 903) (by decide +kernel)) rfl
theorem m_905 : Cond.instanceMethod ⟨"IharaZetaModel","clears","([J)V"⟩ ∈ tbG := tbG_in (List.mem_of_getElem? (i := 905) (by decide +kernel)) rfl
theorem m_906 : Cond.code ⟨"IharaZetaModel","clears","([J)V"⟩ prog_11_method_34_code 3 (none : Option FieldType) ∈ tbG := tbG_in (List.mem_of_getElem? (i := 906) (by decide +kernel)) rfl
theorem m_907 : Cond.methodLink "IharaZetaModel" 124 ⟨"IharaZetaModel","laysStep","(I)V"⟩ ∈ tbG := tbG_in (List.mem_of_getElem? (i := 907) (by decide +kernel)) rfl
theorem m_909 : Cond.instanceMethod ⟨"IharaZetaModel","laysStep","(I)V"⟩ ∈ tbG := tbG_in (List.mem_of_getElem? (i := 909) (by decide +kernel)) rfl
theorem m_910 : Cond.code ⟨"IharaZetaModel","laysStep","(I)V"⟩ prog_11_method_35_code 7 (none : Option FieldType) ∈ tbG := tbG_in (List.mem_of_getElem? (i := 910) (by decide +kernel)) rfl
theorem m_911 : Cond.methodLink "IharaZetaLaw" 125 ⟨"IharaZetaModel","signedCoefficient","(I)J"⟩ ∈ tbG := tbG_in (List.mem_of_getElem? (i := 911) (by decide +kernel)) rfl
theorem m_912 : Cond.instanceMethod ⟨"IharaZetaModel","signedCoefficient","(I)J"⟩ ∈ tbG := tbG_in (List.mem_of_getElem? (i := 912) (by decide +kernel)) rfl
theorem m_913 : Cond.selects "IharaZetaModel" ⟨"IharaZetaModel","signedCoefficient","(I)J"⟩ ⟨"IharaZetaModel","signedCoefficient","(I)J"⟩ ∈ tbG := tbG_in (List.mem_of_getElem? (i := 913) (by decide +kernel)) rfl
theorem m_914 : Cond.code ⟨"IharaZetaModel","signedCoefficient","(I)J"⟩ prog_11_method_56_code 2 (some FieldType.long) ∈ tbG := tbG_in (List.mem_of_getElem? (i := 914) (by decide +kernel)) rfl
theorem m_915 : Cond.methodLink "IharaZetaLaw" 129 ⟨"IharaZetaModel","vertexCoefficient","(I)J"⟩ ∈ tbG := tbG_in (List.mem_of_getElem? (i := 915) (by decide +kernel)) rfl
theorem m_916 : Cond.instanceMethod ⟨"IharaZetaModel","vertexCoefficient","(I)J"⟩ ∈ tbG := tbG_in (List.mem_of_getElem? (i := 916) (by decide +kernel)) rfl
theorem m_917 : Cond.selects "IharaZetaModel" ⟨"IharaZetaModel","vertexCoefficient","(I)J"⟩ ⟨"IharaZetaModel","vertexCoefficient","(I)J"⟩ ∈ tbG := tbG_in (List.mem_of_getElem? (i := 917) (by decide +kernel)) rfl
theorem m_918 : Cond.code ⟨"IharaZetaModel","vertexCoefficient","(I)J"⟩ prog_11_method_57_code 2 (some FieldType.long) ∈ tbG := tbG_in (List.mem_of_getElem? (i := 918) (by decide +kernel)) rfl
theorem m_919 : Cond.methodLink "IharaZetaModel" 135 ⟨"IharaZetaModel","laysVertices","()V"⟩ ∈ tbG := tbG_in (List.mem_of_getElem? (i := 919) (by decide +kernel)) rfl
theorem m_921 : Cond.instanceMethod ⟨"IharaZetaModel","laysVertices","()V"⟩ ∈ tbG := tbG_in (List.mem_of_getElem? (i := 921) (by decide +kernel)) rfl
theorem m_922 : Cond.code ⟨"IharaZetaModel","laysVertices","()V"⟩ prog_11_method_32_code 3 (none : Option FieldType) ∈ tbG := tbG_in (List.mem_of_getElem? (i := 922) (by decide +kernel)) rfl
theorem m_923 : Cond.methodLink "IharaZetaLaw" 133 ⟨"IharaZetaModel","bassCoefficient","(I)J"⟩ ∈ tbG := tbG_in (List.mem_of_getElem? (i := 923) (by decide +kernel)) rfl
theorem m_924 : Cond.instanceMethod ⟨"IharaZetaModel","bassCoefficient","(I)J"⟩ ∈ tbG := tbG_in (List.mem_of_getElem? (i := 924) (by decide +kernel)) rfl
theorem m_925 : Cond.selects "IharaZetaModel" ⟨"IharaZetaModel","bassCoefficient","(I)J"⟩ ⟨"IharaZetaModel","bassCoefficient","(I)J"⟩ ∈ tbG := tbG_in (List.mem_of_getElem? (i := 925) (by decide +kernel)) rfl
theorem m_926 : Cond.code ⟨"IharaZetaModel","bassCoefficient","(I)J"⟩ prog_11_method_58_code 2 (some FieldType.long) ∈ tbG := tbG_in (List.mem_of_getElem? (i := 926) (by decide +kernel)) rfl
theorem m_927 : Cond.methodLink "IharaZetaModel" 168 ⟨"IharaZetaModel","laysBassPoly","()V"⟩ ∈ tbG := tbG_in (List.mem_of_getElem? (i := 927) (by decide +kernel)) rfl
theorem m_929 : Cond.instanceMethod ⟨"IharaZetaModel","laysBassPoly","()V"⟩ ∈ tbG := tbG_in (List.mem_of_getElem? (i := 929) (by decide +kernel)) rfl
theorem m_930 : Cond.code ⟨"IharaZetaModel","laysBassPoly","()V"⟩ prog_11_method_38_code 4 (none : Option FieldType) ∈ tbG := tbG_in (List.mem_of_getElem? (i := 930) (by decide +kernel)) rfl
theorem m_931 : Cond.methodLink "IharaZetaLaw" 137 ⟨"IharaZetaModel","zetaCoefficient","(I)J"⟩ ∈ tbG := tbG_in (List.mem_of_getElem? (i := 931) (by decide +kernel)) rfl
theorem m_932 : Cond.instanceMethod ⟨"IharaZetaModel","zetaCoefficient","(I)J"⟩ ∈ tbG := tbG_in (List.mem_of_getElem? (i := 932) (by decide +kernel)) rfl
theorem m_933 : Cond.selects "IharaZetaModel" ⟨"IharaZetaModel","zetaCoefficient","(I)J"⟩ ⟨"IharaZetaModel","zetaCoefficient","(I)J"⟩ ∈ tbG := tbG_in (List.mem_of_getElem? (i := 933) (by decide +kernel)) rfl
theorem m_934 : Cond.code ⟨"IharaZetaModel","zetaCoefficient","(I)J"⟩ prog_11_method_59_code 4 (some FieldType.long) ∈ tbG := tbG_in (List.mem_of_getElem? (i := 934) (by decide +kernel)) rfl
theorem m_935 : Cond.methodLink "IharaZetaLaw" 141 ⟨"IharaZetaModel","edgeValue","(I)J"⟩ ∈ tbG := tbG_in (List.mem_of_getElem? (i := 935) (by decide +kernel)) rfl
theorem m_936 : Cond.instanceMethod ⟨"IharaZetaModel","edgeValue","(I)J"⟩ ∈ tbG := tbG_in (List.mem_of_getElem? (i := 936) (by decide +kernel)) rfl
theorem m_937 : Cond.selects "IharaZetaModel" ⟨"IharaZetaModel","edgeValue","(I)J"⟩ ⟨"IharaZetaModel","edgeValue","(I)J"⟩ ∈ tbG := tbG_in (List.mem_of_getElem? (i := 937) (by decide +kernel)) rfl
theorem m_938 : Cond.code ⟨"IharaZetaModel","edgeValue","(I)J"⟩ prog_11_method_60_code 5 (some FieldType.long) ∈ tbG := tbG_in (List.mem_of_getElem? (i := 938) (by decide +kernel)) rfl
theorem m_939 : Cond.methodLink "IharaZetaLaw" 145 ⟨"IharaZetaModel","taylorAtOne","(I)J"⟩ ∈ tbG := tbG_in (List.mem_of_getElem? (i := 939) (by decide +kernel)) rfl
theorem m_940 : Cond.instanceMethod ⟨"IharaZetaModel","taylorAtOne","(I)J"⟩ ∈ tbG := tbG_in (List.mem_of_getElem? (i := 940) (by decide +kernel)) rfl
theorem m_941 : Cond.selects "IharaZetaModel" ⟨"IharaZetaModel","taylorAtOne","(I)J"⟩ ⟨"IharaZetaModel","taylorAtOne","(I)J"⟩ ∈ tbG := tbG_in (List.mem_of_getElem? (i := 941) (by decide +kernel)) rfl
theorem m_942 : Cond.code ⟨"IharaZetaModel","taylorAtOne","(I)J"⟩ prog_11_method_61_code 4 (some FieldType.long) ∈ tbG := tbG_in (List.mem_of_getElem? (i := 942) (by decide +kernel)) rfl
theorem m_943 : Cond.methodLink "IharaZetaLaw" 149 ⟨"IharaZetaModel","edgeDegree","()I"⟩ ∈ tbG := tbG_in (List.mem_of_getElem? (i := 943) (by decide +kernel)) rfl
theorem m_944 : Cond.instanceMethod ⟨"IharaZetaModel","edgeDegree","()I"⟩ ∈ tbG := tbG_in (List.mem_of_getElem? (i := 944) (by decide +kernel)) rfl
theorem m_945 : Cond.selects "IharaZetaModel" ⟨"IharaZetaModel","edgeDegree","()I"⟩ ⟨"IharaZetaModel","edgeDegree","()I"⟩ ∈ tbG := tbG_in (List.mem_of_getElem? (i := 945) (by decide +kernel)) rfl
theorem m_946 : Cond.code ⟨"IharaZetaModel","edgeDegree","()I"⟩ prog_11_method_62_code 2 (some FieldType.int) ∈ tbG := tbG_in (List.mem_of_getElem? (i := 946) (by decide +kernel)) rfl
theorem m_947 : Cond.methodLink "IharaZetaLaw" 153 ⟨"IharaZetaModel","spanningTrees","()I"⟩ ∈ tbG := tbG_in (List.mem_of_getElem? (i := 947) (by decide +kernel)) rfl
theorem m_948 : Cond.instanceMethod ⟨"IharaZetaModel","spanningTrees","()I"⟩ ∈ tbG := tbG_in (List.mem_of_getElem? (i := 948) (by decide +kernel)) rfl
theorem m_949 : Cond.selects "IharaZetaModel" ⟨"IharaZetaModel","spanningTrees","()I"⟩ ⟨"IharaZetaModel","spanningTrees","()I"⟩ ∈ tbG := tbG_in (List.mem_of_getElem? (i := 949) (by decide +kernel)) rfl
theorem m_950 : Cond.code ⟨"IharaZetaModel","spanningTrees","()I"⟩ prog_11_method_63_code 3 (some FieldType.int) ∈ tbG := tbG_in (List.mem_of_getElem? (i := 950) (by decide +kernel)) rfl
theorem m_951 : Cond.methodLink "IharaZetaModel" 171 ⟨"IharaZetaModel","laysTrees","()V"⟩ ∈ tbG := tbG_in (List.mem_of_getElem? (i := 951) (by decide +kernel)) rfl
theorem m_953 : Cond.instanceMethod ⟨"IharaZetaModel","laysTrees","()V"⟩ ∈ tbG := tbG_in (List.mem_of_getElem? (i := 953) (by decide +kernel)) rfl
theorem m_954 : Cond.code ⟨"IharaZetaModel","laysTrees","()V"⟩ prog_11_method_33_code 4 (none : Option FieldType) ∈ tbG := tbG_in (List.mem_of_getElem? (i := 954) (by decide +kernel)) rfl
end
section
/-! pure control: guards, binds, names, loops -/
def gd {α : Type} (b : Bool) (x : Option α) : Option α := if b = true then x else none
theorem gd_some {α : Type} {b : Bool} {x : Option α} {r : α} (h : gd b x = some r) : b = true ∧ x = some r := by
  unfold gd at h
  by_cases hb : b = true
  · rw [if_pos hb] at h; exact ⟨hb, h⟩
  · rw [if_neg hb] at h; cases h
theorem gd_t {α : Type} {b : Bool} {x : Option α} (h : b = true) : gd b x = x := if_pos h
def bd {α β : Type} (x : Option α) (k : α → Option β) : Option β := x.bind k
theorem bd_some {α β : Type} {x : Option α} {k : α → Option β} {r : β} (h : bd x k = some r) : ∃ a, x = some a ∧ k a = some r := Option.bind_eq_some_iff.mp h
theorem bd_t {α β : Type} {x : Option α} {k : α → Option β} {a : α} (h : x = some a) : bd x k = k a := by rw [h]; rfl
def nm {α β : Type} (x : α) (k : α → Option β) : Option β := k x
theorem nm_some {α β : Type} {x : α} {k : α → Option β} {r : β} (h : nm x k = some r) : ∀ y, y = x → k y = some r := fun _ e => by rw [e]; exact h
theorem if_t {α : Type} {c : Prop} [Decidable c] {a b r : α} (h : (if c then a else b) = r) (hc : c) : a = r := by rw [if_pos hc] at h; exact h
theorem if_f {α : Type} {c : Prop} [Decidable c] {a b r : α} (h : (if c then a else b) = r) (hc : ¬ c) : b = r := by rw [if_neg hc] at h; exact h
def inb (i : Int32) (n : Nat) : Bool := decide (0 ≤ i.toInt ∧ i.toInt < n)
theorem inb_in {i : Int32} {n : Nat} (h : inb i n = true) : vp_in i n := vp_in_iff.mpr (of_decide_eq_true h)
def nz (i : Int32) : Bool := decide (¬ i = 0)
theorem nz_ne {i : Int32} (h : nz i = true) : ¬ i = 0 := of_decide_eq_true h
def nzl (i : Int64) : Bool := decide (¬ i = 0)
theorem nzl_ne {i : Int64} (h : nzl i = true) : ¬ i = 0 := of_decide_eq_true h
def bq (i : Int32) : Bool := decide (i = 0 ∨ i = 1)
theorem bq_nar {i : Int32} (h : bq i = true) : narrow .boolean (.int i) = .int i := by
  rcases of_decide_eq_true h with rfl | rfl <;> decide
def it {σ ρ : Type} (b : σ → Option (σ ⊕ ρ)) : Nat → σ → Option ρ
  | 0, _ => none
  | n + 1, s => match b s with
    | none => none
    | some (.inl t) => it b n t
    | some (.inr r) => some r
def itK {σ ρ : Type} (b : σ → Option (σ ⊕ ρ)) (n : Nat) (r : ρ) : σ ⊕ ρ → Prop
  | .inl t => it b n t = some r
  | .inr r' => r' = r
theorem it_zero {σ ρ : Type} {b : σ → Option (σ ⊕ ρ)} {s : σ} {r : ρ} (h : it b 0 s = some r) : False := by cases h
theorem it_succ {σ ρ : Type} {b : σ → Option (σ ⊕ ρ)} {n : Nat} {s : σ} {r : ρ} (h : it b (n + 1) s = some r) : ∃ x, b s = some x ∧ itK b n r x := by
  unfold it at h
  cases hb : b s with
  | none => rw [hb] at h; cases h
  | some x =>
    rw [hb] at h
    cases x with
    | inl t => exact ⟨_, rfl, h⟩
    | inr r' => exact ⟨_, rfl, Option.some.inj h⟩
theorem it_inl {σ ρ : Type} {b : σ → Option (σ ⊕ ρ)} {n : Nat} {s t : σ} (h : b s = some (.inl t)) : it b (n + 1) s = it b n t := by
  show (match b s with | none => none | some (.inl t) => it b n t | some (.inr r) => some r) = _
  rw [h]
theorem it_inr {σ ρ : Type} {b : σ → Option (σ ⊕ ρ)} {n : Nat} {s : σ} {r : ρ} (h : b s = some (.inr r)) : it b (n + 1) s = some r := by
  show (match b s with | none => none | some (.inl t) => it b n t | some (.inr r) => some r) = _
  rw [h]
theorem it_mono {σ ρ : Type} {b : σ → Option (σ ⊕ ρ)} {r : ρ} (k : Nat) : ∀ (n : Nat) (s : σ), it b n s = some r → it b (n + k) s = some r := by
  intro n
  induction n with
  | zero => intro s h; exact (it_zero h).elim
  | succ n ih =>
    intro s h
    obtain ⟨x, hb, hX⟩ := it_succ h
    rw [Nat.succ_add]
    cases x with
    | inl t => rw [it_inl hb]; exact ih t hX
    | inr r' => rw [it_inr hb]; exact congrArg some hX
noncomputable def wh {σ ρ : Type} (b : σ → Option (σ ⊕ ρ)) (s : σ) : Option ρ := @dite _ (∃ r, ∃ n, it b n s = some r) (Classical.propDecidable _) (fun h => some h.choose) (fun _ => none)
theorem wh_some {σ ρ : Type} {b : σ → Option (σ ⊕ ρ)} {s : σ} {r : ρ} (h : wh b s = some r) : ∃ n, it b n s = some r := by
  unfold wh at h
  by_cases hc : ∃ r, ∃ n, it b n s = some r
  · rw [dif_pos hc] at h
    have := hc.choose_spec
    rw [Option.some.inj h] at this
    exact this
  · rw [dif_neg hc] at h; cases h
theorem wh_of {σ ρ : Type} {b : σ → Option (σ ⊕ ρ)} {s : σ} {r : ρ} {n : Nat} (h : it b n s = some r) : wh b s = some r := by
  unfold wh
  have hc : ∃ r, ∃ n, it b n s = some r := ⟨r, n, h⟩
  rw [dif_pos hc]
  obtain ⟨n2, h2⟩ := hc.choose_spec
  have a := it_mono n2 n s h
  have c := it_mono n n2 s h2
  rw [Nat.add_comm n2 n] at c
  rw [a] at c
  exact c.symm
theorem wh_inl {σ ρ : Type} {b : σ → Option (σ ⊕ ρ)} {s t : σ} {r : ρ} (h : b s = some (.inl t)) (h2 : wh b t = some r) : wh b s = some r := by
  obtain ⟨n, hn⟩ := wh_some h2
  exact wh_of (n := n + 1) (by rw [it_inl h]; exact hn)
theorem wh_inr {σ ρ : Type} {b : σ → Option (σ ⊕ ρ)} {s : σ} {r : ρ} (h : b s = some (.inr r)) : wh b s = some r := wh_of (n := 1) (it_inr h)
/-- a counted loop, from the i-th state on to the n-th, where it ends -/
theorem wh_cnt {σ ρ : Type} {b : σ → Option (σ ⊕ ρ)} (S : Nat → σ) (n : Nat) {r : ρ} (hs : ∀ i, i < n → b (S i) = some (.inl (S (i + 1)))) (he : b (S n) = some (.inr r)) : ∀ i, i ≤ n → wh b (S i) = some r := by
  have : ∀ k i, i + k = n → wh b (S i) = some r := by
    intro k
    induction k with
    | zero => intro i hi; rw [show i = n by omega]; exact wh_inr he
    | succ k ih => intro i hi; exact wh_inl (hs i (by omega)) (ih (i + 1) (by omega))
  intro i hi
  exact this (n - i) i (by omega)
def ex2 {α β γ : Type} (r : α ⊕ β) (k0 : α → Option γ) (k1 : β → Option γ) : Option γ := match r with
  | .inl a => k0 a
  | .inr b => k1 b
theorem ex2_0 {α β γ : Type} {r : α ⊕ β} {k0 : α → Option γ} {k1 : β → Option γ} {x : γ} {a : α} (h : ex2 r k0 k1 = some x) (e : r = .inl a) : k0 a = some x := by rw [e] at h; exact h
theorem ex2_1 {α β γ : Type} {r : α ⊕ β} {k0 : α → Option γ} {k1 : β → Option γ} {x : γ} {b : β} (h : ex2 r k0 k1 = some x) (e : r = .inr b) : k1 b = some x := by rw [e] at h; exact h
def ex3 {α β γ δ : Type} (r : α ⊕ (β ⊕ γ)) (k0 : α → Option δ) (k1 : β → Option δ) (k2 : γ → Option δ) : Option δ := match r with
  | .inl a => k0 a
  | .inr (.inl b) => k1 b
  | .inr (.inr c) => k2 c
theorem ex3_0 {α β γ δ : Type} {r : α ⊕ (β ⊕ γ)} {k0 : α → Option δ} {k1 : β → Option δ} {k2 : γ → Option δ} {x : δ} {a : α} (h : ex3 r k0 k1 k2 = some x) (e : r = .inl a) : k0 a = some x := by rw [e] at h; exact h
theorem ex3_1 {α β γ δ : Type} {r : α ⊕ (β ⊕ γ)} {k0 : α → Option δ} {k1 : β → Option δ} {k2 : γ → Option δ} {x : δ} {b : β} (h : ex3 r k0 k1 k2 = some x) (e : r = .inr (.inl b)) : k1 b = some x := by rw [e] at h; exact h
theorem ex3_2 {α β γ δ : Type} {r : α ⊕ (β ⊕ γ)} {k0 : α → Option δ} {k1 : β → Option δ} {k2 : γ → Option δ} {x : δ} {c : γ} (h : ex3 r k0 k1 k2 = some x) (e : r = .inr (.inr c)) : k2 c = some x := by rw [e] at h; exact h
theorem ts_out3 {x : Int32} (h0 : ¬ x = nI 0) (h1 : ¬ x = nI 1) (h2 : ¬ x = nI 2) : x.toInt < 0 ∨ 2 < x.toInt := by
  have a : x.toInt ≠ 0 := fun h => h0 (Int32.toInt_inj.mp (h.trans (by decide)))
  have b : x.toInt ≠ 1 := fun h => h1 (Int32.toInt_inj.mp (h.trans (by decide)))
  have c : x.toInt ≠ 2 := fun h => h2 (Int32.toInt_inj.mp (h.trans (by decide)))
  omega
end
section
/-! worlds in one form, and the rows over them -/
theorem va_AOA.moved {t : FieldType} {u U : State} (hvm : u.vm.Alike U.vm) (h : va_AOA t u) : va_AOA t U := by
  obtain ⟨comp, c, k, h1, h2, h3, h4, h5⟩ := arrayOverA_spec h
  obtain ⟨k', hk', he⟩ := hvm.2.2 _ _ h3
  have hi : (U.vm.classes.findIdx? fun (x : Class) => match x.kind with | .array component _ => component == comp | _ => false) = some c := by
    refine (va_idx_bare U.vm comp).symm.trans ?_
    first | rw [hvm.bare_eq] | rw [← hvm.bare_eq]
    exact (va_idx_bare u.vm comp).trans h2
  have hkind : k'.kind = .array comp (.array t) := by rw [he]; exact h4
  have f1 : U.vm.findClass (FieldType.array t).toString = some comp := by rw [hvm.findClass]; exact h1
  have f2 : U.vm.findClass ("[" ++ (FieldType.array t).toString) = some c := by rw [hvm.findClass]; exact h5
  unfold va_AOA Cond.before Cond.holds
  simp only [Cond.value]
  rw [f1, Option.bind_some]
  refine (congrArg (fun o : Option Nat => (o.bind (fun c => (U.vm.classes[c]?).map fun (k : Class) => match k.kind with | .array _ ty => decide (ty = FieldType.array t) && decide (U.vm.findClass ("[" ++ (FieldType.array t).toString) = some c) | _ => false) == some true)) hi).trans ?_
  simp [hk', hkind, f2]
abbrev GG : Type := (Nat → ClassId) × (Nat → Nat → Nat) × ClassId × ClassId × ClassId × ClassId
abbrev gD (g : GG) : va_G := (g.1, g.2.1)
abbrev gT (g : GG) : List (ClassId × FieldType) := [(g.2.2.1, .int), (g.2.2.2.1, .long), (g.2.2.2.2.1, .object RX2), (g.2.2.2.2.2, .array .long)]
abbrev aI (g : GG) (a n : Nat) (f : Nat → Int32) : Nat × va_E := (a, .inl (g.2.2.1, n, .inl f))
abbrev aJ (g : GG) (a n : Nat) (f : Nat → Int64) : Nat × va_E := (a, .inl (g.2.2.2.1, n, .inr (.inl f)))
abbrev aG (g : GG) (a n : Nat) (f : Nat → Option Nat) : Nat × va_E := (a, .inl (g.2.2.2.2.1, n, .inr (.inr (.inr (.inr f)))))
abbrev aM (g : GG) (a n : Nat) (f : Nat → Option Nat) : Nat × va_E := (a, .inl (g.2.2.2.2.2, n, .inr (.inr (.inr (.inr f)))))
abbrev ob (a ci : Nat) (fs : List Value) : Nat × va_E := (a, .inr (ci, fs))
def nwL : List Cond := [Cond.methodLinkNest "IharaZeta" 11 ⟨"IharaZeta$Graph","<init>","()V"⟩ "IharaZeta", Cond.fieldLinkNest "IharaZeta$Grouping" 21 "IharaZeta$Graph" "vertices" "I" "IharaZeta", Cond.fieldLinkNest "IharaZeta" 70 "IharaZeta$Graph" "vertices" "I" "IharaZeta", Cond.fieldLinkNest "IharaZeta$VertexPolynomial" 26 "IharaZeta$Graph" "vertices" "I" "IharaZeta", Cond.fieldLinkNest "IharaZeta$Grouping" 27 "IharaZeta$Graph" "edges" "I" "IharaZeta", Cond.fieldLinkNest "IharaZeta" 94 "IharaZeta$Graph" "edges" "I" "IharaZeta", Cond.fieldLinkNest "IharaZeta$PrimeSearch" 32 "IharaZeta$Graph" "edges" "I" "IharaZeta", Cond.fieldLinkNest "IharaZeta$WalkCounter" 50 "IharaZeta$Graph" "edges" "I" "IharaZeta", Cond.fieldLinkNest "IharaZeta$Grouping" 47 "IharaZeta$Graph" "firsts" "[I" "IharaZeta", Cond.fieldLinkNest "IharaZeta$Grouping" 50 "IharaZeta$Graph" "seconds" "[I" "IharaZeta", Cond.fieldLinkNest "IharaZeta$PrimeSearch" 23 "IharaZeta$Graph" "signs" "[I" "IharaZeta", Cond.fieldLinkNest "IharaZeta" 103 "IharaZeta$Graph" "signs" "[I" "IharaZeta", Cond.fieldLinkNest "IharaZeta$WalkCounter" 66 "IharaZeta$Graph" "signs" "[I" "IharaZeta", Cond.fieldLinkNest "IharaZeta$Grouping" 53 "IharaZeta$Graph" "signs" "[I" "IharaZeta", Cond.methodLinkNest "IharaZeta$History" 21 ⟨"IharaZeta$Graph","<init>","()V"⟩ "IharaZeta", Cond.fieldLinkNest "IharaZeta" 119 "IharaZeta$History" "count" "I" "IharaZeta", Cond.methodLinkNest "IharaZeta" 30 ⟨"IharaZeta$EdgeText","<init>","()V"⟩ "IharaZeta", Cond.fieldLinkNest "IharaZeta" 107 "IharaZeta$EdgeText" "length" "I" "IharaZeta", Cond.methodLinkNest "IharaZeta" 37 ⟨"IharaZeta$Grouping","<init>","()V"⟩ "IharaZeta", Cond.methodLinkNest "IharaZeta" 44 ⟨"IharaZeta$WalkCounter","<init>","()V"⟩ "IharaZeta", Cond.fieldLinkNest "IharaZeta" 154 "IharaZeta$WalkCounter" "closed" "[J" "IharaZeta", Cond.fieldLinkNest "IharaZeta" 161 "IharaZeta$WalkCounter" "closedSigned" "[J" "IharaZeta", Cond.fieldLinkNest "IharaZeta" 167 "IharaZeta$WalkCounter" "primitive" "[J" "IharaZeta", Cond.fieldLinkNest "IharaZeta" 173 "IharaZeta$WalkCounter" "primitiveSigned" "[J" "IharaZeta", Cond.methodLinkNest "IharaZeta" 51 ⟨"IharaZeta$PrimeSearch","<init>","()V"⟩ "IharaZeta", Cond.fieldLinkNest "IharaZeta" 189 "IharaZeta$PrimeSearch" "word" "[I" "IharaZeta", Cond.methodLinkNest "IharaZeta" 58 ⟨"IharaZeta$EdgePolynomial","<init>","()V"⟩ "IharaZeta", Cond.fieldLinkNest "IharaZeta" 202 "IharaZeta$EdgePolynomial" "coefficients" "[J" "IharaZeta", Cond.methodLinkNest "IharaZeta" 65 ⟨"IharaZeta$VertexPolynomial","<init>","()V"⟩ "IharaZeta", Cond.fieldLinkNest "IharaZeta" 211 "IharaZeta$VertexPolynomial" "coefficients" "[J" "IharaZeta"]
theorem nwL_warm : ∀ w ∈ nwL, ∀ {s U : State}, s.WarmedH U.vm → va_Nw w s → va_Nw w U := List.forall_mem_cons.mpr ⟨fun {_ _} a b => va_Nw.warmM a b, List.forall_mem_cons.mpr ⟨fun {_ _} a b => va_Nw.warmF a b, List.forall_mem_cons.mpr ⟨fun {_ _} a b => va_Nw.warmF a b, List.forall_mem_cons.mpr ⟨fun {_ _} a b => va_Nw.warmF a b, List.forall_mem_cons.mpr ⟨fun {_ _} a b => va_Nw.warmF a b, List.forall_mem_cons.mpr ⟨fun {_ _} a b => va_Nw.warmF a b, List.forall_mem_cons.mpr ⟨fun {_ _} a b => va_Nw.warmF a b, List.forall_mem_cons.mpr ⟨fun {_ _} a b => va_Nw.warmF a b, List.forall_mem_cons.mpr ⟨fun {_ _} a b => va_Nw.warmF a b, List.forall_mem_cons.mpr ⟨fun {_ _} a b => va_Nw.warmF a b, List.forall_mem_cons.mpr ⟨fun {_ _} a b => va_Nw.warmF a b, List.forall_mem_cons.mpr ⟨fun {_ _} a b => va_Nw.warmF a b, List.forall_mem_cons.mpr ⟨fun {_ _} a b => va_Nw.warmF a b, List.forall_mem_cons.mpr ⟨fun {_ _} a b => va_Nw.warmF a b, List.forall_mem_cons.mpr ⟨fun {_ _} a b => va_Nw.warmM a b, List.forall_mem_cons.mpr ⟨fun {_ _} a b => va_Nw.warmF a b, List.forall_mem_cons.mpr ⟨fun {_ _} a b => va_Nw.warmM a b, List.forall_mem_cons.mpr ⟨fun {_ _} a b => va_Nw.warmF a b, List.forall_mem_cons.mpr ⟨fun {_ _} a b => va_Nw.warmM a b, List.forall_mem_cons.mpr ⟨fun {_ _} a b => va_Nw.warmM a b, List.forall_mem_cons.mpr ⟨fun {_ _} a b => va_Nw.warmF a b, List.forall_mem_cons.mpr ⟨fun {_ _} a b => va_Nw.warmF a b, List.forall_mem_cons.mpr ⟨fun {_ _} a b => va_Nw.warmF a b, List.forall_mem_cons.mpr ⟨fun {_ _} a b => va_Nw.warmF a b, List.forall_mem_cons.mpr ⟨fun {_ _} a b => va_Nw.warmM a b, List.forall_mem_cons.mpr ⟨fun {_ _} a b => va_Nw.warmF a b, List.forall_mem_cons.mpr ⟨fun {_ _} a b => va_Nw.warmM a b, List.forall_mem_cons.mpr ⟨fun {_ _} a b => va_Nw.warmF a b, List.forall_mem_cons.mpr ⟨fun {_ _} a b => va_Nw.warmM a b, List.forall_mem_cons.mpr ⟨fun {_ _} a b => va_Nw.warmF a b, fun _ h => absurd h List.not_mem_nil⟩⟩⟩⟩⟩⟩⟩⟩⟩⟩⟩⟩⟩⟩⟩⟩⟩⟩⟩⟩⟩⟩⟩⟩⟩⟩⟩⟩⟩⟩
theorem nwL_tab : ∀ w ∈ nwL, w.onTables = true := List.forall_mem_cons.mpr ⟨rfl, List.forall_mem_cons.mpr ⟨rfl, List.forall_mem_cons.mpr ⟨rfl, List.forall_mem_cons.mpr ⟨rfl, List.forall_mem_cons.mpr ⟨rfl, List.forall_mem_cons.mpr ⟨rfl, List.forall_mem_cons.mpr ⟨rfl, List.forall_mem_cons.mpr ⟨rfl, List.forall_mem_cons.mpr ⟨rfl, List.forall_mem_cons.mpr ⟨rfl, List.forall_mem_cons.mpr ⟨rfl, List.forall_mem_cons.mpr ⟨rfl, List.forall_mem_cons.mpr ⟨rfl, List.forall_mem_cons.mpr ⟨rfl, List.forall_mem_cons.mpr ⟨rfl, List.forall_mem_cons.mpr ⟨rfl, List.forall_mem_cons.mpr ⟨rfl, List.forall_mem_cons.mpr ⟨rfl, List.forall_mem_cons.mpr ⟨rfl, List.forall_mem_cons.mpr ⟨rfl, List.forall_mem_cons.mpr ⟨rfl, List.forall_mem_cons.mpr ⟨rfl, List.forall_mem_cons.mpr ⟨rfl, List.forall_mem_cons.mpr ⟨rfl, List.forall_mem_cons.mpr ⟨rfl, List.forall_mem_cons.mpr ⟨rfl, List.forall_mem_cons.mpr ⟨rfl, List.forall_mem_cons.mpr ⟨rfl, List.forall_mem_cons.mpr ⟨rfl, List.forall_mem_cons.mpr ⟨rfl, fun _ h => absurd h List.not_mem_nil⟩⟩⟩⟩⟩⟩⟩⟩⟩⟩⟩⟩⟩⟩⟩⟩⟩⟩⟩⟩⟩⟩⟩⟩⟩⟩⟩⟩⟩⟩
theorem n_65 : Cond.methodLinkNest "IharaZeta" 11 ⟨"IharaZeta$Graph","<init>","()V"⟩ "IharaZeta" ∈ nwL := List.mem_of_getElem? (i := 0) rfl
theorem n_70 : Cond.fieldLinkNest "IharaZeta$Grouping" 21 "IharaZeta$Graph" "vertices" "I" "IharaZeta" ∈ nwL := List.mem_of_getElem? (i := 1) rfl
theorem n_71 : Cond.fieldLinkNest "IharaZeta" 70 "IharaZeta$Graph" "vertices" "I" "IharaZeta" ∈ nwL := List.mem_of_getElem? (i := 2) rfl
theorem n_72 : Cond.fieldLinkNest "IharaZeta$VertexPolynomial" 26 "IharaZeta$Graph" "vertices" "I" "IharaZeta" ∈ nwL := List.mem_of_getElem? (i := 3) rfl
theorem n_74 : Cond.fieldLinkNest "IharaZeta$Grouping" 27 "IharaZeta$Graph" "edges" "I" "IharaZeta" ∈ nwL := List.mem_of_getElem? (i := 4) rfl
theorem n_75 : Cond.fieldLinkNest "IharaZeta" 94 "IharaZeta$Graph" "edges" "I" "IharaZeta" ∈ nwL := List.mem_of_getElem? (i := 5) rfl
theorem n_76 : Cond.fieldLinkNest "IharaZeta$PrimeSearch" 32 "IharaZeta$Graph" "edges" "I" "IharaZeta" ∈ nwL := List.mem_of_getElem? (i := 6) rfl
theorem n_77 : Cond.fieldLinkNest "IharaZeta$WalkCounter" 50 "IharaZeta$Graph" "edges" "I" "IharaZeta" ∈ nwL := List.mem_of_getElem? (i := 7) rfl
theorem n_79 : Cond.fieldLinkNest "IharaZeta$Grouping" 47 "IharaZeta$Graph" "firsts" "[I" "IharaZeta" ∈ nwL := List.mem_of_getElem? (i := 8) rfl
theorem n_81 : Cond.fieldLinkNest "IharaZeta$Grouping" 50 "IharaZeta$Graph" "seconds" "[I" "IharaZeta" ∈ nwL := List.mem_of_getElem? (i := 9) rfl
theorem n_83 : Cond.fieldLinkNest "IharaZeta$PrimeSearch" 23 "IharaZeta$Graph" "signs" "[I" "IharaZeta" ∈ nwL := List.mem_of_getElem? (i := 10) rfl
theorem n_84 : Cond.fieldLinkNest "IharaZeta" 103 "IharaZeta$Graph" "signs" "[I" "IharaZeta" ∈ nwL := List.mem_of_getElem? (i := 11) rfl
theorem n_85 : Cond.fieldLinkNest "IharaZeta$WalkCounter" 66 "IharaZeta$Graph" "signs" "[I" "IharaZeta" ∈ nwL := List.mem_of_getElem? (i := 12) rfl
theorem n_86 : Cond.fieldLinkNest "IharaZeta$Grouping" 53 "IharaZeta$Graph" "signs" "[I" "IharaZeta" ∈ nwL := List.mem_of_getElem? (i := 13) rfl
theorem n_107 : Cond.methodLinkNest "IharaZeta$History" 21 ⟨"IharaZeta$Graph","<init>","()V"⟩ "IharaZeta" ∈ nwL := List.mem_of_getElem? (i := 14) rfl
theorem n_109 : Cond.fieldLinkNest "IharaZeta" 119 "IharaZeta$History" "count" "I" "IharaZeta" ∈ nwL := List.mem_of_getElem? (i := 15) rfl
theorem n_118 : Cond.methodLinkNest "IharaZeta" 30 ⟨"IharaZeta$EdgeText","<init>","()V"⟩ "IharaZeta" ∈ nwL := List.mem_of_getElem? (i := 16) rfl
theorem n_123 : Cond.fieldLinkNest "IharaZeta" 107 "IharaZeta$EdgeText" "length" "I" "IharaZeta" ∈ nwL := List.mem_of_getElem? (i := 17) rfl
theorem n_144 : Cond.methodLinkNest "IharaZeta" 37 ⟨"IharaZeta$Grouping","<init>","()V"⟩ "IharaZeta" ∈ nwL := List.mem_of_getElem? (i := 18) rfl
theorem n_157 : Cond.methodLinkNest "IharaZeta" 44 ⟨"IharaZeta$WalkCounter","<init>","()V"⟩ "IharaZeta" ∈ nwL := List.mem_of_getElem? (i := 19) rfl
theorem n_162 : Cond.fieldLinkNest "IharaZeta" 154 "IharaZeta$WalkCounter" "closed" "[J" "IharaZeta" ∈ nwL := List.mem_of_getElem? (i := 20) rfl
theorem n_164 : Cond.fieldLinkNest "IharaZeta" 161 "IharaZeta$WalkCounter" "closedSigned" "[J" "IharaZeta" ∈ nwL := List.mem_of_getElem? (i := 21) rfl
theorem n_166 : Cond.fieldLinkNest "IharaZeta" 167 "IharaZeta$WalkCounter" "primitive" "[J" "IharaZeta" ∈ nwL := List.mem_of_getElem? (i := 22) rfl
theorem n_168 : Cond.fieldLinkNest "IharaZeta" 173 "IharaZeta$WalkCounter" "primitiveSigned" "[J" "IharaZeta" ∈ nwL := List.mem_of_getElem? (i := 23) rfl
theorem n_187 : Cond.methodLinkNest "IharaZeta" 51 ⟨"IharaZeta$PrimeSearch","<init>","()V"⟩ "IharaZeta" ∈ nwL := List.mem_of_getElem? (i := 24) rfl
theorem n_192 : Cond.fieldLinkNest "IharaZeta" 189 "IharaZeta$PrimeSearch" "word" "[I" "IharaZeta" ∈ nwL := List.mem_of_getElem? (i := 25) rfl
theorem n_201 : Cond.methodLinkNest "IharaZeta" 58 ⟨"IharaZeta$EdgePolynomial","<init>","()V"⟩ "IharaZeta" ∈ nwL := List.mem_of_getElem? (i := 26) rfl
theorem n_206 : Cond.fieldLinkNest "IharaZeta" 202 "IharaZeta$EdgePolynomial" "coefficients" "[J" "IharaZeta" ∈ nwL := List.mem_of_getElem? (i := 27) rfl
theorem n_215 : Cond.methodLinkNest "IharaZeta" 65 ⟨"IharaZeta$VertexPolynomial","<init>","()V"⟩ "IharaZeta" ∈ nwL := List.mem_of_getElem? (i := 28) rfl
theorem n_222 : Cond.fieldLinkNest "IharaZeta" 211 "IharaZeta$VertexPolynomial" "coefficients" "[J" "IharaZeta" ∈ nwL := List.mem_of_getElem? (i := 29) rfl
def KK (g : GG) (U : State) : Prop := va_K (gD g) vwCl (gT g) U ∧ (∀ w ∈ nwL, va_Nw w U) ∧ va_AO RX2 U ∧ va_AOA .long U
theorem KK.warm {g : GG} {s U : State} (hW : s.WarmedH U.vm) (h : KK g s) : KK g U := ⟨va_K.moved hW.alike h.1, fun w hw => nwL_warm w hw hW (h.2.1 w hw), va_AO.moved hW.alike h.2.2.1, va_AOA.moved hW.alike h.2.2.2⟩
theorem KK.blind {g : GG} {U : State} {fr : JFrame} {mk : MethodId} {a : Array Value} (h : KK g U) : KK g (U.calling fr mk a) := ⟨va_K.moved (u := U) (U := U.calling fr mk a) (Vm.Alike.refl U.vm) h.1, fun w hw => va_Nw.same (nwL_tab w hw) (u := U) rfl (h.2.1 w hw), va_AO.moved (u := U) (U := U.calling fr mk a) (Vm.Alike.refl U.vm) h.2.2.1, va_AOA.moved (u := U) (U := U.calling fr mk a) (Vm.Alike.refl U.vm) h.2.2.2⟩
theorem KK.nw {g : GG} {s : State} {args : Array Value} {w : Cond} (h : KK g s) (hw : w ∈ nwL) : w.before args s = true := va_Nw.use (nwL_tab w hw) (h.2.1 w hw)
def Pre (g : GG) (ws : va_W) (sz : Nat) (U : State) : Prop := U.heap.size = sz ∧ va_P (gD g) vwCl ws U.heap ∧ KK g U ∧ va_D (fun _ => True) ws
theorem Pre.blind {g : GG} {ws : va_W} {sz : Nat} {av : List Value} : FrameBlind (va_Pc av (Pre g ws sz)) := fun _ _ _ _ q => ⟨q.1, q.2.1, q.2.2.1, q.2.2.2.1.blind, q.2.2.2.2⟩
def Q1 (o : Option Value) (B : State → Prop) (A : Nat → Prop) : Array Value → State → Outcome → State → Prop := fun _ st oc t => (oc = .returned o ∧ B t) ∧ va_F A st t
abbrev Wds (y : MethodName) (cc : ByteArray) (n : Nat) (ret : Option FieldType) : List Cond := .code y cc n ret :: tbG
abbrev rmv (fr lo : Nat) : Room := { frames := fr, cells := 0, slots := 0, locals := lo }
def CT (g : GG) (l : Launch) (y : MethodName) (cc : ByteArray) (n : Nat) (ret : Option FieldType) (fr lo : Nat) (av : List Value) (ws ws2 : va_W) (o : Option Value) : Prop :=
  ∀ sz, Met l y (Wds y cc n ret) (rmv fr lo) (va_Pc av (Pre g ws sz)) (Q1 o (fun t => va_P (gD g) vwCl ws2 t.heap ∧ va_D (va_A ws sz) ws2) (va_A ws sz)) 0 0 (va_A ws sz)
def Cx (g : GG) (p : Program) (s : State) (m : MethodId) (args : Array Value) (c : Code) (cc : ByteArray) (own : String) (nL : Nat) : Prop :=
  p.tables.exec = Jvm.exec ∧ c.code = cc ∧ c.maxLocals = nL ∧ s.vm.findClass own = some m.cls ∧ (∀ w ∈ tbG, w.before args s = true) ∧ KK g s
theorem ct_i {g : GG} {l : Launch} {y : MethodName} {cc : ByteArray} {n fr lo : Nat} {av : List Value} {ws ws2 : va_W} {v : Int32} (hy : plainName y.cls = true) (hn : (lg_sl av).length ≤ n)
    (body : ∀ (p : Program) (e : Env) (s : State) (m : MethodId) (args : Array Value) (below : List Frame) (meth : Method) (c : Code) (Q : State → Prop) (A : Nat → Prop) (ls : Array Slot), Cx g p s m args c cc y.cls n → va_P (gD g) vwCl ws s.heap → va_D A ws → (∀ q, s.heap.size ≤ q → A q) → lv_has ls n (lv_args 0 av) →
      (∀ (pc : Nat) (H : Heap) (locs : List Loc) (ls : Array Slot), decode cc pc = .ok (.ireturn, 1) → va_P (gD g) vwCl ws2 H → va_D A ws2 → va_S A s.heap H locs → W p l e (rmv fr lo) s m args below meth c H locs 0 0 Q (F0 m pc ls [.int v])) →
      W p l e (rmv fr lo) s m args below meth c s.heap [] 0 0 Q (F0 m 0 ls [])) : CT g l y cc n (some .int) fr lo av ws ws2 (some (.int v)) := by
  intro sz
  refine Met.ofW (cc := cc) (maxL := n) (ret := (some .int)) hy rfl ?_
  intro p e s m args below meth c s₁ B hml hv
  obtain ⟨rfl, hsz, hP, hK, hD0⟩ := hv
  subst hsz
  have hts := atoms_spec (ws := Wds y cc n (some .int)) B.pre
  have hown : s.vm.findClass y.cls = some m.cls := findClass_of_methodNamed B.named
  have hlocks := B.notSynchronized
  have hr := B.returns
  have hl := lv_entry av (n := n) hn
  rw [lg_entry_eq]
  refine body p e s m av.toArray below meth c _ (va_A ws s.heap.size) _ ⟨B.exec, B.bytes, hml, hown, fun w hw => hts w (List.mem_cons_of_mem _ hw), hK⟩ hP hD0.self (fun q h => Or.inr h) hl ?_
  intro pc H locs ls hd hP2 hD2 hS
  exact W.iret B.exec B.bytes hr (fun t ht hW => ⟨⟨rfl, by rw [ht]; exact hP2, hD2⟩, hS.F ht⟩) hS.2.2 hd
theorem ct_z {g : GG} {l : Launch} {y : MethodName} {cc : ByteArray} {n fr lo : Nat} {av : List Value} {ws ws2 : va_W} {v : Int32} (hy : plainName y.cls = true) (hn : (lg_sl av).length ≤ n)
    (body : ∀ (p : Program) (e : Env) (s : State) (m : MethodId) (args : Array Value) (below : List Frame) (meth : Method) (c : Code) (Q : State → Prop) (A : Nat → Prop) (ls : Array Slot), Cx g p s m args c cc y.cls n → va_P (gD g) vwCl ws s.heap → va_D A ws → (∀ q, s.heap.size ≤ q → A q) → lv_has ls n (lv_args 0 av) →
      (∀ (pc : Nat) (H : Heap) (locs : List Loc) (ls : Array Slot), decode cc pc = .ok (.ireturn, 1) → bq v = true → va_P (gD g) vwCl ws2 H → va_D A ws2 → va_S A s.heap H locs → W p l e (rmv fr lo) s m args below meth c H locs 0 0 Q (F0 m pc ls [.int v])) →
      W p l e (rmv fr lo) s m args below meth c s.heap [] 0 0 Q (F0 m 0 ls [])) : CT g l y cc n (some .boolean) fr lo av ws ws2 (some (.int v)) := by
  intro sz
  refine Met.ofW (cc := cc) (maxL := n) (ret := (some .boolean)) hy rfl ?_
  intro p e s m args below meth c s₁ B hml hv
  obtain ⟨rfl, hsz, hP, hK, hD0⟩ := hv
  subst hsz
  have hts := atoms_spec (ws := Wds y cc n (some .boolean)) B.pre
  have hown : s.vm.findClass y.cls = some m.cls := findClass_of_methodNamed B.named
  have hlocks := B.notSynchronized
  have hr := B.returns
  have hl := lv_entry av (n := n) hn
  rw [lg_entry_eq]
  refine body p e s m av.toArray below meth c _ (va_A ws s.heap.size) _ ⟨B.exec, B.bytes, hml, hown, fun w hw => hts w (List.mem_cons_of_mem _ hw), hK⟩ hP hD0.self (fun q h => Or.inr h) hl ?_
  intro pc H locs ls hd hz hP2 hD2 hS
  exact W.zret B.exec B.bytes hr (bq_nar hz) (fun t ht hW => ⟨⟨rfl, by rw [ht]; exact hP2, hD2⟩, hS.F ht⟩) hS.2.2 hd
theorem ct_l {g : GG} {l : Launch} {y : MethodName} {cc : ByteArray} {n fr lo : Nat} {av : List Value} {ws ws2 : va_W} {v : Int64} (hy : plainName y.cls = true) (hn : (lg_sl av).length ≤ n)
    (body : ∀ (p : Program) (e : Env) (s : State) (m : MethodId) (args : Array Value) (below : List Frame) (meth : Method) (c : Code) (Q : State → Prop) (A : Nat → Prop) (ls : Array Slot), Cx g p s m args c cc y.cls n → va_P (gD g) vwCl ws s.heap → va_D A ws → (∀ q, s.heap.size ≤ q → A q) → lv_has ls n (lv_args 0 av) →
      (∀ (pc : Nat) (H : Heap) (locs : List Loc) (ls : Array Slot), decode cc pc = .ok (.lreturn, 1) → va_P (gD g) vwCl ws2 H → va_D A ws2 → va_S A s.heap H locs → W p l e (rmv fr lo) s m args below meth c H locs 0 0 Q (F0 m pc ls [.long v])) →
      W p l e (rmv fr lo) s m args below meth c s.heap [] 0 0 Q (F0 m 0 ls [])) : CT g l y cc n (some .long) fr lo av ws ws2 (some (.long v)) := by
  intro sz
  refine Met.ofW (cc := cc) (maxL := n) (ret := (some .long)) hy rfl ?_
  intro p e s m args below meth c s₁ B hml hv
  obtain ⟨rfl, hsz, hP, hK, hD0⟩ := hv
  subst hsz
  have hts := atoms_spec (ws := Wds y cc n (some .long)) B.pre
  have hown : s.vm.findClass y.cls = some m.cls := findClass_of_methodNamed B.named
  have hlocks := B.notSynchronized
  have hr := B.returns
  have hl := lv_entry av (n := n) hn
  rw [lg_entry_eq]
  refine body p e s m av.toArray below meth c _ (va_A ws s.heap.size) _ ⟨B.exec, B.bytes, hml, hown, fun w hw => hts w (List.mem_cons_of_mem _ hw), hK⟩ hP hD0.self (fun q h => Or.inr h) hl ?_
  intro pc H locs ls hd hP2 hD2 hS
  exact W.lret B.exec B.bytes hr (fun t ht hW => ⟨⟨rfl, by rw [ht]; exact hP2, hD2⟩, hS.F ht⟩) hS.2.2 hd
theorem ct_v {g : GG} {l : Launch} {y : MethodName} {cc : ByteArray} {n fr lo : Nat} {av : List Value} {ws ws2 : va_W} (hy : plainName y.cls = true) (hn : (lg_sl av).length ≤ n)
    (body : ∀ (p : Program) (e : Env) (s : State) (m : MethodId) (args : Array Value) (below : List Frame) (meth : Method) (c : Code) (Q : State → Prop) (A : Nat → Prop) (ls : Array Slot), Cx g p s m args c cc y.cls n → va_P (gD g) vwCl ws s.heap → va_D A ws → (∀ q, s.heap.size ≤ q → A q) → lv_has ls n (lv_args 0 av) →
      (∀ (pc : Nat) (H : Heap) (locs : List Loc) (ls : Array Slot), decode cc pc = .ok (.return_, 1) → va_P (gD g) vwCl ws2 H → va_D A ws2 → va_S A s.heap H locs → W p l e (rmv fr lo) s m args below meth c H locs 0 0 Q (F0 m pc ls [])) →
      W p l e (rmv fr lo) s m args below meth c s.heap [] 0 0 Q (F0 m 0 ls [])) : CT g l y cc n none fr lo av ws ws2 none := by
  intro sz
  refine Met.ofW (cc := cc) (maxL := n) (ret := none) hy rfl ?_
  intro p e s m args below meth c s₁ B hml hv
  obtain ⟨rfl, hsz, hP, hK, hD0⟩ := hv
  subst hsz
  have hts := atoms_spec (ws := Wds y cc n none) B.pre
  have hown : s.vm.findClass y.cls = some m.cls := findClass_of_methodNamed B.named
  have hlocks := B.notSynchronized
  have hr := B.returns
  have hl := lv_entry av (n := n) hn
  rw [lg_entry_eq]
  refine body p e s m av.toArray below meth c _ (va_A ws s.heap.size) _ ⟨B.exec, B.bytes, hml, hown, fun w hw => hts w (List.mem_cons_of_mem _ hw), hK⟩ hP hD0.self (fun q h => Or.inr h) hl ?_
  intro pc H locs ls hd hP2 hD2 hS
  exact W.vret B.exec B.bytes hr (fun t ht hW => ⟨⟨rfl, by rw [ht]; exact hP2, hD2⟩, hS.F ht⟩) hS.2.2 hd
theorem inX0 : ∀ w ∈ wsX00, w ∈ tbG := fun w h => tbG_in ((List.all_eq_true.mp (show (wsX00.all (fun w => decide (w ∈ lw_tbl))) = true by decide +kernel) w h |> of_decide_eq_true)) (List.all_eq_true.mp (show (wsX00.all goodWord) = true by decide +kernel) w h)
theorem inX1 : ∀ w ∈ wsX10, w ∈ tbG := fun w h => tbG_in ((List.all_eq_true.mp (show (wsX10.all (fun w => decide (w ∈ lw_tbl))) = true by decide +kernel) w h |> of_decide_eq_true)) (List.all_eq_true.mp (show (wsX10.all goodWord) = true by decide +kernel) w h)
theorem inX2 : ∀ w ∈ wsX20, w ∈ tbG := fun w h => tbG_in ((List.all_eq_true.mp (show (wsX20.all (fun w => decide (w ∈ lw_tbl))) = true by decide +kernel) w h |> of_decide_eq_true)) (List.all_eq_true.mp (show (wsX20.all goodWord) = true by decide +kernel) w h)
theorem inX3 : ∀ w ∈ wsX30, w ∈ tbG := fun w h => tbG_in ((List.all_eq_true.mp (show (wsX30.all (fun w => decide (w ∈ lw_tbl))) = true by decide +kernel) w h |> of_decide_eq_true)) (List.all_eq_true.mp (show (wsX30.all goodWord) = true by decide +kernel) w h)
theorem inX4 : ∀ w ∈ wsX40, w ∈ tbG := fun w h => tbG_in ((List.all_eq_true.mp (show (wsX40.all (fun w => decide (w ∈ lw_tbl))) = true by decide +kernel) w h |> of_decide_eq_true)) (List.all_eq_true.mp (show (wsX40.all goodWord) = true by decide +kernel) w h)
theorem inX5 : ∀ w ∈ wsX50, w ∈ tbG := fun w h => tbG_in ((List.all_eq_true.mp (show (wsX50.all (fun w => decide (w ∈ lw_tbl))) = true by decide +kernel) w h |> of_decide_eq_true)) (List.all_eq_true.mp (show (wsX50.all goodWord) = true by decide +kernel) w h)
theorem inX6 : ∀ w ∈ wsX60, w ∈ tbG := fun w h => tbG_in ((List.all_eq_true.mp (show (wsX60.all (fun w => decide (w ∈ lw_tbl))) = true by decide +kernel) w h |> of_decide_eq_true)) (List.all_eq_true.mp (show (wsX60.all goodWord) = true by decide +kernel) w h)
theorem inX7 : ∀ w ∈ wsX70, w ∈ tbG := fun w h => tbG_in ((List.all_eq_true.mp (show (wsX70.all (fun w => decide (w ∈ lw_tbl))) = true by decide +kernel) w h |> of_decide_eq_true)) (List.all_eq_true.mp (show (wsX70.all goodWord) = true by decide +kernel) w h)
theorem inX8 : ∀ w ∈ wsX80, w ∈ tbG := fun w h => tbG_in ((List.all_eq_true.mp (show (wsX80.all (fun w => decide (w ∈ lw_tbl))) = true by decide +kernel) w h |> of_decide_eq_true)) (List.all_eq_true.mp (show (wsX80.all goodWord) = true by decide +kernel) w h)
theorem inX9 : ∀ w ∈ wsX90, w ∈ tbG := fun w h => tbG_in ((List.all_eq_true.mp (show (wsX90.all (fun w => decide (w ∈ lw_tbl))) = true by decide +kernel) w h |> of_decide_eq_true)) (List.all_eq_true.mp (show (wsX90.all goodWord) = true by decide +kernel) w h)
def setAll : va_W → List Nat → va_W → va_W
  | ws, i :: is, q :: qs => setAll (ws.set i q) is qs
  | ws, [], _ => ws
  | ws, _ :: _, [] => ws
theorem setAll_at : ∀ (is : List Nat) (ws qs : va_W), is.length = qs.length → (∀ i ∈ is, i < ws.length) → ∀ (k : Nat) (q : Nat × va_E), (setAll ws is qs)[k]? = some q → (∃ j : Nat, is[j]? = some k ∧ qs[j]? = some q) ∨ (k ∉ is ∧ ws[k]? = some q) := by
  intro is
  induction is with
  | nil => intro ws qs _ _ k q h; exact Or.inr ⟨List.not_mem_nil, by cases qs <;> exact h⟩
  | cons i is ih =>
    intro ws qs hl hi k q h
    cases qs with
    | nil => cases hl
    | cons q0 qs =>
      have h' : (setAll (ws.set i q0) is qs)[k]? = some q := h
      rcases ih (ws.set i q0) qs (Nat.succ.inj hl) (fun j hj => by rw [List.length_set]; exact hi j (List.mem_cons_of_mem _ hj)) k q h' with ⟨j, a, b⟩ | ⟨a, b⟩
      · exact Or.inl ⟨j + 1, a, b⟩
      · by_cases hk : i = k
        · subst hk
          rw [List.getElem?_set_self (hi i List.mem_cons_self)] at b
          exact Or.inl ⟨0, rfl, b⟩
        · rw [List.getElem?_set_ne hk] at b
          exact Or.inr ⟨fun hm => (List.mem_cons.mp hm).elim (fun e => hk e.symm) a, b⟩
theorem join_set {A0 : Nat → Prop} {D : va_G} {cl : List vw_C} {ws wc wc2 ws2 : va_W} {H H1 : Heap} (hP : va_P D cl ws H) (hD : va_D A0 ws) (isC : List Nat) (hC : isC.map (fun i => ws[i]?) = wc.map some) (hf : wc.map (·.1) = wc2.map (·.1)) (hw2 : setAll ws isC wc2 = ws2)
    (hk : ∀ q : Nat, q < H.size → ¬ va_A wc H.size q → H1[q]? = H[q]?) (hP1 : va_P D cl wc2 H1) : va_P D cl ws2 H1 ∧ va_D A0 ws2 := by
  have hat : ∀ (j : Nat) (q : Nat × va_E), wc[j]? = some q → ∃ i, isC[j]? = some i ∧ ws[i]? = some q := by
    intro j q hq
    have h1 : (isC.map (fun i => ws[i]?))[j]? = some (some q) := by rw [hC, List.getElem?_map, hq]; rfl
    rw [List.getElem?_map] at h1
    cases hi : isC[j]? with
    | none => rw [hi] at h1; cases h1
    | some i => rw [hi] at h1; exact ⟨i, rfl, Option.some.inj h1⟩
  have hlen1 : isC.length = wc.length := by have := congrArg List.length hC; simpa using this
  have hlen2 : wc.length = wc2.length := by have := congrArg List.length hf; simpa using this
  have hin : ∀ i ∈ isC, i < ws.length := by
    intro i hi
    obtain ⟨j, hj⟩ := List.getElem?_of_mem hi
    have hjl : j < wc.length := by rw [← hlen1]; exact (List.getElem?_eq_some_iff.mp hj).1
    obtain ⟨i', h1, h2⟩ := hat j wc[j] (List.getElem?_eq_getElem hjl)
    rw [hj] at h1
    cases h1
    exact (List.getElem?_eq_some_iff.mp h2).1
  have key := setAll_at isC ws wc2 (hlen1.trans hlen2) hin
  have adr : ∀ (k : Nat) (q : Nat × va_E), ws2[k]? = some q → ∃ q0, ws[k]? = some q0 ∧ q0.1 = q.1 := by
    intro k q hq
    rw [← hw2] at hq
    rcases key k q hq with ⟨j, a, b⟩ | ⟨a, b⟩
    · have hjl : j < wc.length := by rw [hlen2]; exact (List.getElem?_eq_some_iff.mp b).1
      obtain ⟨i', h1, h2⟩ := hat j wc[j] (List.getElem?_eq_getElem hjl)
      rw [a] at h1
      cases h1
      refine ⟨_, h2, ?_⟩
      have h3 : (wc.map (·.1))[j]? = (wc2.map (·.1))[j]? := by rw [hf]
      rw [List.getElem?_map, List.getElem?_map, b, List.getElem?_eq_getElem hjl] at h3
      exact Option.some.inj h3
    · exact ⟨q, b, rfl⟩
  refine ⟨fun k q hq => ?_, fun i j x y hi hj hxy => ?_, fun k q hq => ?_⟩
  · rw [← hw2] at hq
    rcases key k q hq with ⟨j, a, b⟩ | ⟨a, b⟩
    · exact hP1 j q b
    · refine (hP k q b).kept (hk q.1 (hP k q b).lt fun h => ?_)
      rcases h with ⟨j, e, h⟩ | h
      · obtain ⟨i, h1, h2⟩ := hat j _ h
        have := hD.1 i k _ _ h2 b rfl
        subst this
        exact a (List.mem_of_getElem? h1)
      · exact absurd (hP k q b).lt (Nat.not_lt.mpr h)
  · obtain ⟨x0, a1, a2⟩ := adr i x hi
    obtain ⟨y0, b1, b2⟩ := adr j y hj
    exact hD.1 i j x0 y0 a1 b1 (a2.trans (hxy.trans b2.symm))
  · obtain ⟨q0, a1, a2⟩ := adr k q hq
    rw [← a2]
    exact hD.2 k q0 a1
theorem ws_in : ∀ q ∈ vwCl, ∀ w ∈ u_ws q.1 q.2.1 q.2.2, w ∈ tbG := List.forall_mem_cons.mpr ⟨inX0, List.forall_mem_cons.mpr ⟨inX1, List.forall_mem_cons.mpr ⟨inX2, List.forall_mem_cons.mpr ⟨inX3, List.forall_mem_cons.mpr ⟨inX4, List.forall_mem_cons.mpr ⟨inX5, List.forall_mem_cons.mpr ⟨inX6, List.forall_mem_cons.mpr ⟨inX7, List.forall_mem_cons.mpr ⟨inX8, List.forall_mem_cons.mpr ⟨inX9, fun _ h => absurd h List.not_mem_nil⟩⟩⟩⟩⟩⟩⟩⟩⟩⟩
theorem ws_ty : ∀ q ∈ vwCl, (∃ ty0 : Nat → FieldType, ∀ k, k < q.2.2 → parseFieldDescriptor (q.2.1 k).2.2.1 = some (ty0 k)) ∧ ∀ a, a < q.2.2 → ∀ b, b < q.2.2 → a ≠ b → (q.2.1 a).2.1 ≠ (q.2.1 b).2.1 := List.forall_mem_cons.mpr ⟨⟨⟨tyX0, tyX0_ok⟩, nmX0⟩, List.forall_mem_cons.mpr ⟨⟨⟨tyX1, tyX1_ok⟩, nmX1⟩, List.forall_mem_cons.mpr ⟨⟨⟨tyX2, tyX2_ok⟩, nmX2⟩, List.forall_mem_cons.mpr ⟨⟨⟨tyX3, tyX3_ok⟩, nmX3⟩, List.forall_mem_cons.mpr ⟨⟨⟨tyX4, tyX4_ok⟩, nmX4⟩, List.forall_mem_cons.mpr ⟨⟨⟨tyX5, tyX5_ok⟩, nmX5⟩, List.forall_mem_cons.mpr ⟨⟨⟨tyX6, tyX6_ok⟩, nmX6⟩, List.forall_mem_cons.mpr ⟨⟨⟨tyX7, tyX7_ok⟩, nmX7⟩, List.forall_mem_cons.mpr ⟨⟨⟨tyX8, tyX8_ok⟩, nmX8⟩, List.forall_mem_cons.mpr ⟨⟨⟨tyX9, tyX9_ok⟩, nmX9⟩, fun _ h => absurd h List.not_mem_nil⟩⟩⟩⟩⟩⟩⟩⟩⟩⟩
section WPRE
variable {g : GG} {p : Program} {l : Launch} {e : Env} {R : Room} {s : State} {m : MethodId} {args : Array Value} {below : List Frame} {meth : Method} {c : Code} {H : Heap} {locs : List Loc} {cells slots : Nat} {Q : State → Prop}
variable {cc : ByteArray} {own : String} {nL : Nat} {pc : Nat} {ls : Array Slot} {rest : List Value} {A : Nat → Prop} {a : Nat} {ws : va_W}
theorem w_get (cx : Cx g p s m args c cc own nL) (hP : va_P (gD g) vwCl ws H) (q0 ci k : Nat) {index : Nat} {C : String} {T : u_T} {N : Nat} {fs : List Value} {v : Value} (he : ws[q0]? = some (a, .inr (ci, fs))) (hc : vwCl[ci]? = some (C, T, N)) (hk : k < N) (hl : Cond.fieldLink own index C (T k).2.1 (T k).2.2.1 ∈ tbG) (hT : (T k).1 = C) (hv : fs[k]? = some v) (hdg : decode cc pc = .ok (.getfield index, 3))
    (kk : W p l e R s m args below meth c H locs cells slots Q (F0 m (pc + 3) ls (v :: rest))) : W p l e R s m args below meth c H locs cells slots Q (F0 m pc ls (.ref a :: rest)) :=
  va_get cx.1 cx.2.1 cx.2.2.2.2.1 (ws_in _ (List.mem_of_getElem? hc)) cx.2.2.2.1 cx.2.2.2.2.2.1 hP q0 he hc k hk (cx.2.2.2.2.1 _ hl) (fun _ h => by rw [hT] at h; exact h) hv hdg kk
theorem w_getN (cx : Cx g p s m args c cc own nL) (hP : va_P (gD g) vwCl ws H) (q0 ci k : Nat) {index : Nat} {C : String} {T : u_T} {N : Nat} {host : String} {fs : List Value} {v : Value} (he : ws[q0]? = some (a, .inr (ci, fs))) (hc : vwCl[ci]? = some (C, T, N)) (hk : k < N) (hl : Cond.fieldLinkNest own index C (T k).2.1 (T k).2.2.1 host ∈ nwL) (hT : (T k).1 = C) (hv : fs[k]? = some v) (hdg : decode cc pc = .ok (.getfield index, 3))
    (kk : W p l e R s m args below meth c H locs cells slots Q (F0 m (pc + 3) ls (v :: rest))) : W p l e R s m args below meth c H locs cells slots Q (F0 m pc ls (.ref a :: rest)) :=
  va_getN cx.1 cx.2.1 cx.2.2.2.2.1 (ws_in _ (List.mem_of_getElem? hc)) cx.2.2.2.1 cx.2.2.2.2.2.1 hP q0 he hc k hk (cx.2.2.2.2.2.nw hl) (fun _ h => by rw [hT] at h; exact h) hv hdg kk
theorem w_put (cx : Cx g p s m args c cc own nL) (hP : va_P (gD g) vwCl ws H) (hD : va_D A ws) (hS : va_S A s.heap H locs) (q0 ci k : Nat) {index : Nat} {C : String} {T : u_T} {N : Nat} {fs : List Value} {x : Int32} (he : ws[q0]? = some (a, .inr (ci, fs))) (hc : vwCl[ci]? = some (C, T, N)) (hk : k < N) (hl : Cond.fieldLink own index C (T k).2.1 (T k).2.2.1 ∈ tbG) (hT : (T k).1 = C) (hfin : (T k).2.2.2 = false) (hty : (T k).2.2.1 = "I") (hlen : k < fs.length) (hdg : decode cc pc = .ok (.putfield index, 3)) (ws2 : va_W) (hw : ws.set q0 (a, .inr (ci, fs.set k (.int x))) = ws2)
    (kk : ∀ (H1 : Heap) (locs1 : List Loc), va_P (gD g) vwCl ws2 H1 → va_D A ws2 → va_S A s.heap H1 locs1 → W p l e R s m args below meth c H1 locs1 cells slots Q (F0 m (pc + 3) ls rest)) : W p l e R s m args below meth c H locs cells slots Q (F0 m pc ls (.int x :: .ref a :: rest)) := by
  obtain ⟨⟨ty0, h1⟩, h2⟩ := ws_ty _ (List.mem_of_getElem? hc)
  exact va_put cx.1 cx.2.1 cx.2.2.2.2.1 (ws_in _ (List.mem_of_getElem? hc)) ty0 h1 h2 cx.2.2.2.1 cx.2.2.2.2.2.1 hP hD hS q0 he hc k hk (cx.2.2.2.2.1 _ hl) (fun _ h => by rw [hT] at h; exact h) hfin (ty := .int) (v := .int x) (by rw [hty]; decide) rfl rfl hlen hdg (fun H1 locs1 a b d => kk H1 locs1 (hw ▸ a) (hw ▸ b) d)
theorem w_putN (cx : Cx g p s m args c cc own nL) (hP : va_P (gD g) vwCl ws H) (hD : va_D A ws) (hS : va_S A s.heap H locs) (q0 ci k : Nat) {index : Nat} {C : String} {T : u_T} {N : Nat} {host : String} {fs : List Value} {x : Int32} (he : ws[q0]? = some (a, .inr (ci, fs))) (hc : vwCl[ci]? = some (C, T, N)) (hk : k < N) (hl : Cond.fieldLinkNest own index C (T k).2.1 (T k).2.2.1 host ∈ nwL) (hT : (T k).1 = C) (hfin : (T k).2.2.2 = false) (hty : (T k).2.2.1 = "I") (hlen : k < fs.length) (hdg : decode cc pc = .ok (.putfield index, 3)) (ws2 : va_W) (hw : ws.set q0 (a, .inr (ci, fs.set k (.int x))) = ws2)
    (kk : ∀ (H1 : Heap) (locs1 : List Loc), va_P (gD g) vwCl ws2 H1 → va_D A ws2 → va_S A s.heap H1 locs1 → W p l e R s m args below meth c H1 locs1 cells slots Q (F0 m (pc + 3) ls rest)) : W p l e R s m args below meth c H locs cells slots Q (F0 m pc ls (.int x :: .ref a :: rest)) := by
  obtain ⟨⟨ty0, h1⟩, h2⟩ := ws_ty _ (List.mem_of_getElem? hc)
  exact va_putN cx.1 cx.2.1 cx.2.2.2.2.1 (ws_in _ (List.mem_of_getElem? hc)) ty0 h1 h2 cx.2.2.2.1 cx.2.2.2.2.2.1 hP hD hS q0 he hc k hk (cx.2.2.2.2.2.nw hl) (fun _ h => by rw [hT] at h; exact h) hfin (ty := .int) (v := .int x) (by rw [hty]; decide) rfl rfl hlen hdg (fun H1 locs1 a b d => kk H1 locs1 (hw ▸ a) (hw ▸ b) d)
theorem w_iald (cx : Cx g p s m args c cc own nL) (hP : va_P (gD g) vwCl ws H) (q0 : Nat) {n : Nat} {f : Nat → Int32} (he : ws[q0]? = some (aI g a n f)) {i : Int32} (hin : inb i n = true) (hdg : decode cc pc = .ok (.iaload, 1))
    (kk : W p l e R s m args below meth c H locs cells slots Q (F0 m (pc + 1) ls (.int (f i.toNatClampNeg) :: rest))) : W p l e R s m args below meth c H locs cells slots Q (F0 m pc ls (.int i :: .ref a :: rest)) :=
  va_iald cx.1 cx.2.1 cx.2.2.2.2.2.1 hP q0 0 he rfl (inb_in hin) hdg kk
theorem w_iast (cx : Cx g p s m args c cc own nL) (hP : va_P (gD g) vwCl ws H) (hD : va_D A ws) (hS : va_S A s.heap H locs) (q0 : Nat) {n : Nat} {f : Nat → Int32} (he : ws[q0]? = some (aI g a n f)) {i : Int32} {x : Int32} (hin : inb i n = true) (hdg : decode cc pc = .ok (.iastore, 1)) (ws2 : va_W) (hw : ws.set q0 (aI g a n (upd f i.toNatClampNeg x)) = ws2)
    (kk : ∀ (H1 : Heap) (locs1 : List Loc), va_P (gD g) vwCl ws2 H1 → va_D A ws2 → va_S A s.heap H1 locs1 → W p l e R s m args below meth c H1 locs1 cells slots Q (F0 m (pc + 1) ls rest)) : W p l e R s m args below meth c H locs cells slots Q (F0 m pc ls (.int x :: .int i :: .ref a :: rest)) :=
  va_iast cx.1 cx.2.1 cx.2.2.2.2.2.1 hP hD hS q0 0 he rfl (inb_in hin) hdg (fun H1 locs1 a b d => kk H1 locs1 (hw ▸ a) (hw ▸ b) d)
theorem w_lald (cx : Cx g p s m args c cc own nL) (hP : va_P (gD g) vwCl ws H) (q0 : Nat) {n : Nat} {f : Nat → Int64} (he : ws[q0]? = some (aJ g a n f)) {i : Int32} (hin : inb i n = true) (hdg : decode cc pc = .ok (.laload, 1))
    (kk : W p l e R s m args below meth c H locs cells slots Q (F0 m (pc + 1) ls (.long (f i.toNatClampNeg) :: rest))) : W p l e R s m args below meth c H locs cells slots Q (F0 m pc ls (.int i :: .ref a :: rest)) :=
  va_lald cx.1 cx.2.1 cx.2.2.2.2.2.1 hP q0 1 he rfl (inb_in hin) hdg kk
theorem w_last (cx : Cx g p s m args c cc own nL) (hP : va_P (gD g) vwCl ws H) (hD : va_D A ws) (hS : va_S A s.heap H locs) (q0 : Nat) {n : Nat} {f : Nat → Int64} (he : ws[q0]? = some (aJ g a n f)) {i : Int32} {x : Int64} (hin : inb i n = true) (hdg : decode cc pc = .ok (.lastore, 1)) (ws2 : va_W) (hw : ws.set q0 (aJ g a n (vp_updL f i.toNatClampNeg x)) = ws2)
    (kk : ∀ (H1 : Heap) (locs1 : List Loc), va_P (gD g) vwCl ws2 H1 → va_D A ws2 → va_S A s.heap H1 locs1 → W p l e R s m args below meth c H1 locs1 cells slots Q (F0 m (pc + 1) ls rest)) : W p l e R s m args below meth c H locs cells slots Q (F0 m pc ls (.long x :: .int i :: .ref a :: rest)) :=
  va_last cx.1 cx.2.1 cx.2.2.2.2.2.1 hP hD hS q0 1 he rfl (inb_in hin) hdg (fun H1 locs1 a b d => kk H1 locs1 (hw ▸ a) (hw ▸ b) d)
theorem w_alen (cx : Cx g p s m args c cc own nL) (hP : va_P (gD g) vwCl ws H) (q0 : Nat) {n : Nat} {f : Nat → Int64} (he : ws[q0]? = some (aJ g a n f)) (hdg : decode cc pc = .ok (.arraylength, 1))
    (kk : W p l e R s m args below meth c H locs cells slots Q (F0 m (pc + 1) ls (.int (nI n) :: rest))) : W p l e R s m args below meth c H locs cells slots Q (F0 m pc ls (.ref a :: rest)) :=
  va_alen cx.1 cx.2.1 cx.2.2.2.2.2.1 hP q0 1 he (ty := .long) rfl rfl hdg kk
def yq (y : MethodName) (k : Nat) : Prop := y.cls ≠ "java/lang/invoke/MethodHandle" ∧ y.cls ≠ "java/lang/invoke/VarHandle" ∧ (parseMethodDescriptor y.desc).map (fun d => d.parameters.length) = some k
theorem w_run {wc wc2 ws2 : va_W} {o : Option Value} {st rs : List Value} (hP : va_P (gD g) vwCl ws H) (hD : va_D A ws) (hS : va_S A s.heap H locs) (hA : ∀ q, s.heap.size ≤ q → A q) (isC : List Nat) (hC : isC.map (fun i => ws[i]?) = wc.map some) (hf : wc.map (·.1) = wc2.map (·.1)) (hw2 : setAll ws isC wc2 = ws2) (hrs : o.toList ++ rest = rs) {Av : Array Value}
    (hr : va_Run p l e R s m args below meth c H locs cells slots 0 0 (F0 m pc ls st) rest (Q1 o (fun t => va_P (gD g) vwCl wc2 t.heap ∧ va_D (va_A wc H.size) wc2) (va_A wc H.size) Av) (va_A wc H.size))
    (kk : ∀ (H1 : Heap) (locs1 : List Loc), va_P (gD g) vwCl ws2 H1 → va_D A ws2 → va_S A s.heap H1 locs1 → W p l e R s m args below meth c H1 locs1 cells slots Q (F0 m (pc + 3) ls rs)) : W p l e R s m args below meth c H locs cells slots Q (F0 m pc ls st) := by
  intro T hT X
  have hfr := va_free hD hS hA isC hC
  obtain ⟨v, st₀, t, T', L, h0, X', hL, e1, e2, ⟨⟨hv, hp, hd⟩, hz, hk⟩, st⟩ := hr T hT X
  cases hv
  rw [h0] at hz hk
  obtain ⟨j1, j2⟩ := join_set hP hD isC hC hf hw2 (H1 := T'.heap) (fun q h1 h2 => by rw [e1]; exact hk q h1 h2) (by rw [e1]; exact hp)
  obtain ⟨t2, a1, b1⟩ := kk T'.heap (locs ++ L) j1 j2
    ⟨Nat.le_trans hS.1 (by rw [e1]; exact hz), fun q h1 h2 => by rw [e1, hk q (Nat.lt_of_lt_of_le h1 hS.1) (fun z => h2 (hfr q z))]; exact hS.2.1 q h1 h2, fun q hq => by
      rcases List.mem_append.mp hq with h | h
      · exact hS.2.2 q h
      · exact hfr _ (hL q h)⟩ T' rfl X'
  exact ⟨t2, st t2 (by subst hrs; exact a1), b1⟩
theorem w_good {y : MethodName} {cc' : ByteArray} {n' : Nat} {ret : Option FieldType} (h : Cond.code y cc' n' ret ∈ tbG) : GoodIn tbG (Wds y cc' n' ret) := fun w hw => by
  have hm : w ∈ tbG := (List.mem_cons.mp hw).elim (fun e => e ▸ h) (fun h => h)
  exact ⟨hm, good_of_word (tbG_good hm)⟩
theorem w_sub {wc : va_W} (hP : va_P (gD g) vwCl ws H) (isC : List Nat) (hC : isC.map (fun i => ws[i]?) = wc.map some) : va_P (gD g) vwCl wc H := fun j q hq => by
  have h1 : (isC.map (fun i => ws[i]?))[j]? = some (some q) := by rw [hC, List.getElem?_map, hq]; rfl
  rw [List.getElem?_map] at h1
  cases hi : isC[j]? with
  | none => rw [hi] at h1; cases h1
  | some i => rw [hi] at h1; exact hP i q (Option.some.inj h1)
theorem w_callV (cx : Cx g p s m args c cc own nL) (hP : va_P (gD g) vwCl ws H) (hD : va_D A ws) (hS : va_S A s.heap H locs) (hA : ∀ q, s.heap.size ≤ q → A q) {y : MethodName} {cc' : ByteArray} {n' fr lo : Nat} {ret : Option FieldType} {b : Nat} {As : List Value} {wc wc2 : va_W} {o : Option Value} (hM : CT g l y cc' n' ret fr lo (.ref b :: As) wc wc2 o)
    (isC : List Nat) (hC : isC.map (fun i => ws[i]?) = wc.map some) (hnd : va_nd isC = true) (hf : wc.map (·.1) = wc2.map (·.1)) (ws2 : va_W) (hw2 : setAll ws isC wc2 = ws2) (q0 ci : Nat) {C : String} {T : u_T} {N : Nat} {fs : List Value} (hq : ws[q0]? = some (b, .inr (ci, fs))) (hc : vwCl[ci]? = some (C, T, N)) {k idx : Nat} (hy : yq y k) (hcls : y.cls = C)
    (m1 : Cond.methodLink own idx y ∈ tbG) (m2 : Cond.instanceMethod y ∈ tbG) (m3 : Cond.selects C y y ∈ tbG) (m4 : Cond.initialized y.cls ∈ tbG) (m5 : Cond.code y cc' n' ret ∈ tbG) (hR : fr + 1 ≤ R.frames ∧ 8 + (n' + 11) + lo ≤ R.locals) (hn : As.length = k) {st rs : List Value} (hst : st = As.reverse ++ .ref b :: rest) (hls : ls.size = nL) (hW : (rest.map fun v => v.category).sum ≤ 8) (hdg : decode cc pc = .ok (.invokevirtual idx, 3)) (hcs : cells ≤ R.cells ∧ slots ≤ R.slots) (hrs : o.toList ++ rest = rs)
    (kk : ∀ (H1 : Heap) (locs1 : List Loc), va_P (gD g) vwCl ws2 H1 → va_D A ws2 → va_S A s.heap H1 locs1 → W p l e R s m args below meth c H1 locs1 cells slots Q (F0 m (pc + 3) ls rs)) : W p l e R s m args below meth c H locs cells slots Q (F0 m pc ls st) := by
  subst hcls
  have hPc : va_P (gD g) vwCl wc H := w_sub hP isC hC
  have hDc := (hD.sub isC hnd hC).weaken (B := fun _ => True) (fun _ _ _ _ => trivial)
  have h0 := hP q0 _ hq
  exact w_run hP hD hS hA isC hC hf hw2 hrs (va_runV ⟨cx.1, cx.2.1, cx.2.2.1, cx.2.2.2.1, cx.2.2.2.2.1⟩ (hM H.size) ⟨callB_of k cx.2.2.2.2.1 (w_good m5) rfl rfl rfl (cx.2.2.2.2.1 _ m4) (cx.2.2.2.2.1 _ m1) hy hR, cx.2.2.2.2.1 _ m2, cx.2.2.2.2.1 _ m3⟩
    ⟨Pre.blind, va_recv cx.2.2.2.2.2.1 hP hc hq, fun U hU hW => ⟨rfl, by rw [hU], by rw [hU]; exact hPc, cx.2.2.2.2.2.warm hW, hDc⟩⟩ rfl hn hls hst (lv_room hW) hdg hcs) kk
theorem w_callS (cx : Cx g p s m args c cc own nL) (hP : va_P (gD g) vwCl ws H) (hD : va_D A ws) (hS : va_S A s.heap H locs) (hA : ∀ q, s.heap.size ≤ q → A q) {y : MethodName} {cc' : ByteArray} {n' fr lo : Nat} {ret : Option FieldType} {As : List Value} {wc wc2 : va_W} {o : Option Value} (hM : CT g l y cc' n' ret fr lo As wc wc2 o)
    (isC : List Nat) (hC : isC.map (fun i => ws[i]?) = wc.map some) (hnd : va_nd isC = true) (hf : wc.map (·.1) = wc2.map (·.1)) (ws2 : va_W) (hw2 : setAll ws isC wc2 = ws2) {k idx : Nat} (hy : yq y k)
    (m1 : Cond.methodLink own idx y ∈ tbG) (m2 : Cond.static y ∈ tbG) (m4 : Cond.initialized y.cls ∈ tbG) (m5 : Cond.code y cc' n' ret ∈ tbG) (hR : fr + 1 ≤ R.frames ∧ 8 + (n' + 11) + lo ≤ R.locals) (hn : As.length = k) {st rs : List Value} (hst : st = As.reverse ++ rest) (hls : ls.size = nL) (hW : (rest.map fun v => v.category).sum ≤ 8) (hdg : decode cc pc = .ok (.invokestatic idx, 3)) (hcs : cells ≤ R.cells ∧ slots ≤ R.slots) (hrs : o.toList ++ rest = rs)
    (kk : ∀ (H1 : Heap) (locs1 : List Loc), va_P (gD g) vwCl ws2 H1 → va_D A ws2 → va_S A s.heap H1 locs1 → W p l e R s m args below meth c H1 locs1 cells slots Q (F0 m (pc + 3) ls rs)) : W p l e R s m args below meth c H locs cells slots Q (F0 m pc ls st) := by
  have hPc : va_P (gD g) vwCl wc H := w_sub hP isC hC
  have hDc := (hD.sub isC hnd hC).weaken (B := fun _ => True) (fun _ _ _ _ => trivial)
  exact w_run hP hD hS hA isC hC hf hw2 hrs (va_runS ⟨cx.1, cx.2.1, cx.2.2.1, cx.2.2.2.1, cx.2.2.2.2.1⟩ (hM H.size) ⟨callB_of k cx.2.2.2.2.1 (w_good m5) rfl rfl rfl (cx.2.2.2.2.1 _ m4) (cx.2.2.2.2.1 _ m1) hy hR, cx.2.2.2.2.1 _ m2⟩
    ⟨Pre.blind, fun U hU hW => ⟨rfl, by rw [hU], by rw [hU]; exact hPc, cx.2.2.2.2.2.warm hW, hDc⟩⟩ rfl hn hls hst (lv_room hW) hdg hcs) kk
end WPRE
end
section
noncomputable def f_X2_isFull (t_vertices : Int32) (t_edges : Int32) : Option (Int32) :=
  if t_edges < (nI 9) then some (nI 0) else some (nI 1)
theorem yq_X2_isFull : yq yX2_isFull 0 := by unfold yq; decide +kernel
set_option maxHeartbeats 4000000 in
set_option maxRecDepth 100000 in
theorem c_X2_isFull (g : GG) (l : Launch) (h_t : Nat) (h_t_firsts : Nat) (h_t_seconds : Nat) (h_t_signs : Nat) (t_vertices : Int32) (t_edges : Int32) {R : Int32} (hM : f_X2_isFull t_vertices t_edges = some R) : CT g l yX2_isFull cX2_isFull 1 (some .boolean) 0 0 [.ref h_t] [ob h_t 2 [.int t_vertices, .int t_edges, .ref h_t_firsts, .ref h_t_seconds, .ref h_t_signs]] [ob h_t 2 [.int t_vertices, .int t_edges, .ref h_t_firsts, .ref h_t_seconds, .ref h_t_signs]] (some (.int R)) := by
  refine ct_z (by decide +kernel) (Nat.le_of_ble_eq_true rfl) ?_
  intro p e s m args below meth c Q A ls cx hP hD hA hl hfin
  obtain ⟨hx, hb, hml, hown, hts, hK⟩ := id cx
  have hl : lv_has ls 1 [(0, .ref h_t)] := hl
  have hS : va_S A s.heap s.heap [] := va_S.rf
  refine lv_aload_n hx hb dX2_isFull_0 rfl (lv_at hl 0 rfl) ?_
  refine w_get cx hP 0 2 1 rfl rfl (by decide) m_73 rfl rfl dX2_isFull_1 ?_
  refine lv_bipush (v := (nI 9)) hx hb dX2_isFull_4 (by decide) ?_
  refine lv_icmp_lt (tgt := 13) hx hb dX2_isFull_6 (by decide) (fun c_6 => ?_) (fun c_6 => ?_)
  · have hM := if_t hM c_6
    refine lv_iconst (v := (nI 0)) hx hb dX2_isFull_13 (by decide) ?_
    have hz : bq (nI 0) = true := by decide
    obtain rfl := Option.some.inj hM
    exact hfin 14 _ _ _ dX2_isFull_14 hz hP hD hS
  · have hM := if_f hM c_6
    refine lv_iconst (v := (nI 1)) hx hb dX2_isFull_9 (by decide) ?_
    refine lv_goto (tgt := 14) hx hb dX2_isFull_10 (by decide) ?_
    have hz : bq (nI 1) = true := by decide
    obtain rfl := Option.some.inj hM
    exact hfin 14 _ _ _ dX2_isFull_14 hz hP hD hS
noncomputable def f_X2_hasVertex (p1 : Int32) (t_vertices : Int32) (t_edges : Int32) : Option (Int32) :=
  if p1 < 0 then some (nI 0) else if t_vertices ≤ p1 then some (nI 0) else some (nI 1)
theorem yq_X2_hasVertex : yq yX2_hasVertex 1 := by unfold yq; decide +kernel
set_option maxHeartbeats 4000000 in
set_option maxRecDepth 100000 in
theorem c_X2_hasVertex (g : GG) (l : Launch) (h_t : Nat) (h_t_firsts : Nat) (h_t_seconds : Nat) (h_t_signs : Nat) (p1 : Int32) (t_vertices : Int32) (t_edges : Int32) {R : Int32} (hM : f_X2_hasVertex p1 t_vertices t_edges = some R) : CT g l yX2_hasVertex cX2_hasVertex 2 (some .boolean) 0 0 [.ref h_t, .int p1] [ob h_t 2 [.int t_vertices, .int t_edges, .ref h_t_firsts, .ref h_t_seconds, .ref h_t_signs]] [ob h_t 2 [.int t_vertices, .int t_edges, .ref h_t_firsts, .ref h_t_seconds, .ref h_t_signs]] (some (.int R)) := by
  refine ct_z (by decide +kernel) (Nat.le_of_ble_eq_true rfl) ?_
  intro p e s m args below meth c Q A ls cx hP hD hA hl hfin
  obtain ⟨hx, hb, hml, hown, hts, hK⟩ := id cx
  have hl : lv_has ls 2 [(0, .ref h_t), (1, .int p1)] := hl
  have hS : va_S A s.heap s.heap [] := va_S.rf
  refine lv_iload_n hx hb dX2_hasVertex_0 rfl (lv_at hl 1 rfl) ?_
  refine lv_if_lt (tgt := 16) hx hb dX2_hasVertex_1 (by decide) (fun c_1 => ?_) (fun c_1 => ?_)
  · have hM := if_t hM c_1
    refine lv_iconst (v := (nI 0)) hx hb dX2_hasVertex_16 (by decide) ?_
    have hz : bq (nI 0) = true := by decide
    obtain rfl := Option.some.inj hM
    exact hfin 17 _ _ _ dX2_hasVertex_17 hz hP hD hS
  · have hM := if_f hM c_1
    refine lv_iload_n hx hb dX2_hasVertex_4 rfl (lv_at hl 1 rfl) ?_
    refine lv_aload_n hx hb dX2_hasVertex_5 rfl (lv_at hl 0 rfl) ?_
    refine w_get cx hP 0 2 0 rfl rfl (by decide) m_69 rfl rfl dX2_hasVertex_6 ?_
    refine lv_icmp_ge (tgt := 16) hx hb dX2_hasVertex_9 (by decide) (fun c_9 => ?_) (fun c_9 => ?_)
    · have hM := if_t hM c_9
      refine lv_iconst (v := (nI 0)) hx hb dX2_hasVertex_16 (by decide) ?_
      have hz : bq (nI 0) = true := by decide
      obtain rfl := Option.some.inj hM
      exact hfin 17 _ _ _ dX2_hasVertex_17 hz hP hD hS
    · have hM := if_f hM c_9
      refine lv_iconst (v := (nI 1)) hx hb dX2_hasVertex_12 (by decide) ?_
      refine lv_goto (tgt := 17) hx hb dX2_hasVertex_13 (by decide) ?_
      have hz : bq (nI 1) = true := by decide
      obtain rfl := Option.some.inj hM
      exact hfin 17 _ _ _ dX2_hasVertex_17 hz hP hD hS
noncomputable def f_X2_hasEdge (p1 : Int32) (t_vertices : Int32) (t_edges : Int32) : Option (Int32) :=
  if p1 < 0 then some (nI 0) else if t_edges ≤ p1 then some (nI 0) else some (nI 1)
theorem yq_X2_hasEdge : yq yX2_hasEdge 1 := by unfold yq; decide +kernel
set_option maxHeartbeats 4000000 in
set_option maxRecDepth 100000 in
theorem c_X2_hasEdge (g : GG) (l : Launch) (h_t : Nat) (h_t_firsts : Nat) (h_t_seconds : Nat) (h_t_signs : Nat) (p1 : Int32) (t_vertices : Int32) (t_edges : Int32) {R : Int32} (hM : f_X2_hasEdge p1 t_vertices t_edges = some R) : CT g l yX2_hasEdge cX2_hasEdge 2 (some .boolean) 0 0 [.ref h_t, .int p1] [ob h_t 2 [.int t_vertices, .int t_edges, .ref h_t_firsts, .ref h_t_seconds, .ref h_t_signs]] [ob h_t 2 [.int t_vertices, .int t_edges, .ref h_t_firsts, .ref h_t_seconds, .ref h_t_signs]] (some (.int R)) := by
  refine ct_z (by decide +kernel) (Nat.le_of_ble_eq_true rfl) ?_
  intro p e s m args below meth c Q A ls cx hP hD hA hl hfin
  obtain ⟨hx, hb, hml, hown, hts, hK⟩ := id cx
  have hl : lv_has ls 2 [(0, .ref h_t), (1, .int p1)] := hl
  have hS : va_S A s.heap s.heap [] := va_S.rf
  refine lv_iload_n hx hb dX2_hasEdge_0 rfl (lv_at hl 1 rfl) ?_
  refine lv_if_lt (tgt := 16) hx hb dX2_hasEdge_1 (by decide) (fun c_1 => ?_) (fun c_1 => ?_)
  · have hM := if_t hM c_1
    refine lv_iconst (v := (nI 0)) hx hb dX2_hasEdge_16 (by decide) ?_
    have hz : bq (nI 0) = true := by decide
    obtain rfl := Option.some.inj hM
    exact hfin 17 _ _ _ dX2_hasEdge_17 hz hP hD hS
  · have hM := if_f hM c_1
    refine lv_iload_n hx hb dX2_hasEdge_4 rfl (lv_at hl 1 rfl) ?_
    refine lv_aload_n hx hb dX2_hasEdge_5 rfl (lv_at hl 0 rfl) ?_
    refine w_get cx hP 0 2 1 rfl rfl (by decide) m_73 rfl rfl dX2_hasEdge_6 ?_
    refine lv_icmp_ge (tgt := 16) hx hb dX2_hasEdge_9 (by decide) (fun c_9 => ?_) (fun c_9 => ?_)
    · have hM := if_t hM c_9
      refine lv_iconst (v := (nI 0)) hx hb dX2_hasEdge_16 (by decide) ?_
      have hz : bq (nI 0) = true := by decide
      obtain rfl := Option.some.inj hM
      exact hfin 17 _ _ _ dX2_hasEdge_17 hz hP hD hS
    · have hM := if_f hM c_9
      refine lv_iconst (v := (nI 1)) hx hb dX2_hasEdge_12 (by decide) ?_
      refine lv_goto (tgt := 17) hx hb dX2_hasEdge_13 (by decide) ?_
      have hz : bq (nI 1) = true := by decide
      obtain rfl := Option.some.inj hM
      exact hfin 17 _ _ _ dX2_hasEdge_17 hz hP hD hS
noncomputable def f_X2_hasDirected (p1 : Int32) (t_vertices : Int32) (t_edges : Int32) : Option (Int32) :=
  if p1 < 0 then some (nI 0) else if ((nI 2) * t_edges) ≤ p1 then some (nI 0) else some (nI 1)
theorem yq_X2_hasDirected : yq yX2_hasDirected 1 := by unfold yq; decide +kernel
set_option maxHeartbeats 4000000 in
set_option maxRecDepth 100000 in
theorem c_X2_hasDirected (g : GG) (l : Launch) (h_t : Nat) (h_t_firsts : Nat) (h_t_seconds : Nat) (h_t_signs : Nat) (p1 : Int32) (t_vertices : Int32) (t_edges : Int32) {R : Int32} (hM : f_X2_hasDirected p1 t_vertices t_edges = some R) : CT g l yX2_hasDirected cX2_hasDirected 2 (some .boolean) 0 0 [.ref h_t, .int p1] [ob h_t 2 [.int t_vertices, .int t_edges, .ref h_t_firsts, .ref h_t_seconds, .ref h_t_signs]] [ob h_t 2 [.int t_vertices, .int t_edges, .ref h_t_firsts, .ref h_t_seconds, .ref h_t_signs]] (some (.int R)) := by
  refine ct_z (by decide +kernel) (Nat.le_of_ble_eq_true rfl) ?_
  intro p e s m args below meth c Q A ls cx hP hD hA hl hfin
  obtain ⟨hx, hb, hml, hown, hts, hK⟩ := id cx
  have hl : lv_has ls 2 [(0, .ref h_t), (1, .int p1)] := hl
  have hS : va_S A s.heap s.heap [] := va_S.rf
  refine lv_iload_n hx hb dX2_hasDirected_0 rfl (lv_at hl 1 rfl) ?_
  refine lv_if_lt (tgt := 18) hx hb dX2_hasDirected_1 (by decide) (fun c_1 => ?_) (fun c_1 => ?_)
  · have hM := if_t hM c_1
    refine lv_iconst (v := (nI 0)) hx hb dX2_hasDirected_18 (by decide) ?_
    have hz : bq (nI 0) = true := by decide
    obtain rfl := Option.some.inj hM
    exact hfin 19 _ _ _ dX2_hasDirected_19 hz hP hD hS
  · have hM := if_f hM c_1
    refine lv_iload_n hx hb dX2_hasDirected_4 rfl (lv_at hl 1 rfl) ?_
    refine lv_iconst (v := (nI 2)) hx hb dX2_hasDirected_5 (by decide) ?_
    refine lv_aload_n hx hb dX2_hasDirected_6 rfl (lv_at hl 0 rfl) ?_
    refine w_get cx hP 0 2 1 rfl rfl (by decide) m_73 rfl rfl dX2_hasDirected_7 ?_
    refine lv_imul hx hb dX2_hasDirected_10 ?_
    refine lv_icmp_ge (tgt := 18) hx hb dX2_hasDirected_11 (by decide) (fun c_11 => ?_) (fun c_11 => ?_)
    · have hM := if_t hM c_11
      refine lv_iconst (v := (nI 0)) hx hb dX2_hasDirected_18 (by decide) ?_
      have hz : bq (nI 0) = true := by decide
      obtain rfl := Option.some.inj hM
      exact hfin 19 _ _ _ dX2_hasDirected_19 hz hP hD hS
    · have hM := if_f hM c_11
      refine lv_iconst (v := (nI 1)) hx hb dX2_hasDirected_14 (by decide) ?_
      refine lv_goto (tgt := 19) hx hb dX2_hasDirected_15 (by decide) ?_
      have hz : bq (nI 1) = true := by decide
      obtain rfl := Option.some.inj hM
      exact hfin 19 _ _ _ dX2_hasDirected_19 hz hP hD hS
noncomputable def f_X2_makeEmpty (p1 : Int32) (t_vertices : Int32) (t_edges : Int32) : Option (Int32 × Int32) :=
  some (p1, (nI 0))
theorem yq_X2_makeEmpty : yq yX2_makeEmpty 1 := by unfold yq; decide +kernel
set_option maxHeartbeats 4000000 in
set_option maxRecDepth 100000 in
theorem c_X2_makeEmpty (g : GG) (l : Launch) (h_t : Nat) (h_t_firsts : Nat) (h_t_seconds : Nat) (h_t_signs : Nat) (p1 : Int32) (t_vertices : Int32) (t_edges : Int32) {R : Int32 × Int32} (hM : f_X2_makeEmpty p1 t_vertices t_edges = some R) : CT g l yX2_makeEmpty cX2_makeEmpty 2 none 0 0 [.ref h_t, .int p1] [ob h_t 2 [.int t_vertices, .int t_edges, .ref h_t_firsts, .ref h_t_seconds, .ref h_t_signs]] [ob h_t 2 [.int R.1, .int R.2, .ref h_t_firsts, .ref h_t_seconds, .ref h_t_signs]] none := by
  refine ct_v (by decide +kernel) (Nat.le_of_ble_eq_true rfl) ?_
  intro p e s m args below meth c Q A ls cx hP hD hA hl hfin
  obtain ⟨hx, hb, hml, hown, hts, hK⟩ := id cx
  have hl : lv_has ls 2 [(0, .ref h_t), (1, .int p1)] := hl
  have hS : va_S A s.heap s.heap [] := va_S.rf
  refine lv_aload_n hx hb dX2_makeEmpty_0 rfl (lv_at hl 0 rfl) ?_
  refine lv_iload_n hx hb dX2_makeEmpty_1 rfl (lv_at hl 1 rfl) ?_
  refine w_put cx hP hD hS 0 2 0 rfl rfl (by decide) m_69 rfl rfl rfl (Nat.le_of_ble_eq_true rfl) dX2_makeEmpty_2 [ob h_t 2 [.int p1, .int t_edges, .ref h_t_firsts, .ref h_t_seconds, .ref h_t_signs]] rfl (fun H locs hP hD hS => ?_)
  refine lv_aload_n hx hb dX2_makeEmpty_5 rfl (lv_at hl 0 rfl) ?_
  refine lv_iconst (v := (nI 0)) hx hb dX2_makeEmpty_6 (by decide) ?_
  refine w_put cx hP hD hS 0 2 1 rfl rfl (by decide) m_73 rfl rfl rfl (Nat.le_of_ble_eq_true rfl) dX2_makeEmpty_7 [ob h_t 2 [.int p1, .int (nI 0), .ref h_t_firsts, .ref h_t_seconds, .ref h_t_signs]] rfl (fun H locs hP hD hS => ?_)
  obtain rfl := Option.some.inj hM
  exact hfin 10 _ _ _ dX2_makeEmpty_10 hP hD hS
noncomputable def b_X2_copyFrom_18 (a_p1_firsts : Nat → Int32) (a_p1_seconds : Nat → Int32) (a_p1_signs : Nat → Int32) : Int32 × (Nat → Int32) × (Nat → Int32) × (Nat → Int32) → Option ((Int32 × (Nat → Int32) × (Nat → Int32) × (Nat → Int32)) ⊕ (((Nat → Int32) × (Nat → Int32) × (Nat → Int32)))) := fun z_18 =>
  if (nI 9) ≤ z_18.1 then some (.inr (z_18.2.1, z_18.2.2.1, z_18.2.2.2)) else gd (inb z_18.1 9) (gd (inb z_18.1 9) (gd (inb z_18.1 9) (gd (inb z_18.1 9) (gd (inb z_18.1 9) (gd (inb z_18.1 9) (some (.inl (z_18.1 + (nI 1), upd z_18.2.1 z_18.1.toNatClampNeg (a_p1_firsts z_18.1.toNatClampNeg), upd z_18.2.2.1 z_18.1.toNatClampNeg (a_p1_seconds z_18.1.toNatClampNeg), upd z_18.2.2.2 z_18.1.toNatClampNeg (a_p1_signs z_18.1.toNatClampNeg)))))))))
noncomputable def f_X2_copyFrom (t_vertices : Int32) (t_edges : Int32) (a_t_firsts : Nat → Int32) (a_t_seconds : Nat → Int32) (a_t_signs : Nat → Int32) (p1_vertices : Int32) (p1_edges : Int32) (a_p1_firsts : Nat → Int32) (a_p1_seconds : Nat → Int32) (a_p1_signs : Nat → Int32) : Option (Int32 × Int32 × (Nat → Int32) × (Nat → Int32) × (Nat → Int32)) :=
  bd (wh (b_X2_copyFrom_18 a_p1_firsts a_p1_seconds a_p1_signs) ((nI 0), a_t_firsts, a_t_seconds, a_t_signs)) (fun (r_18 : (Nat → Int32) × (Nat → Int32) × (Nat → Int32)) => some (p1_vertices, p1_edges, r_18.1, r_18.2.1, r_18.2.2))
theorem yq_X2_copyFrom : yq yX2_copyFrom 1 := by unfold yq; decide +kernel
set_option maxHeartbeats 4000000 in
set_option maxRecDepth 100000 in
theorem c_X2_copyFrom (g : GG) (l : Launch) (h_t : Nat) (h_t_firsts : Nat) (h_t_seconds : Nat) (h_t_signs : Nat) (h_p1 : Nat) (h_p1_firsts : Nat) (h_p1_seconds : Nat) (h_p1_signs : Nat) (t_vertices : Int32) (t_edges : Int32) (a_t_firsts : Nat → Int32) (a_t_seconds : Nat → Int32) (a_t_signs : Nat → Int32) (p1_vertices : Int32) (p1_edges : Int32) (a_p1_firsts : Nat → Int32) (a_p1_seconds : Nat → Int32) (a_p1_signs : Nat → Int32) {R : Int32 × Int32 × (Nat → Int32) × (Nat → Int32) × (Nat → Int32)} (hM : f_X2_copyFrom t_vertices t_edges a_t_firsts a_t_seconds a_t_signs p1_vertices p1_edges a_p1_firsts a_p1_seconds a_p1_signs = some R) : CT g l yX2_copyFrom cX2_copyFrom 3 none 0 0 [.ref h_t, .ref h_p1] [ob h_t 2 [.int t_vertices, .int t_edges, .ref h_t_firsts, .ref h_t_seconds, .ref h_t_signs], aI g h_t_firsts 9 a_t_firsts, aI g h_t_seconds 9 a_t_seconds, aI g h_t_signs 9 a_t_signs, ob h_p1 2 [.int p1_vertices, .int p1_edges, .ref h_p1_firsts, .ref h_p1_seconds, .ref h_p1_signs], aI g h_p1_firsts 9 a_p1_firsts, aI g h_p1_seconds 9 a_p1_seconds, aI g h_p1_signs 9 a_p1_signs] [ob h_t 2 [.int R.1, .int R.2.1, .ref h_t_firsts, .ref h_t_seconds, .ref h_t_signs], aI g h_t_firsts 9 R.2.2.1, aI g h_t_seconds 9 R.2.2.2.1, aI g h_t_signs 9 R.2.2.2.2, ob h_p1 2 [.int p1_vertices, .int p1_edges, .ref h_p1_firsts, .ref h_p1_seconds, .ref h_p1_signs], aI g h_p1_firsts 9 a_p1_firsts, aI g h_p1_seconds 9 a_p1_seconds, aI g h_p1_signs 9 a_p1_signs] none := by
  refine ct_v (by decide +kernel) (Nat.le_of_ble_eq_true rfl) ?_
  intro p e s m args below meth c Q A ls cx hP hD hA hl hfin
  obtain ⟨hx, hb, hml, hown, hts, hK⟩ := id cx
  have hl : lv_has ls 3 [(0, .ref h_t), (1, .ref h_p1)] := hl
  have hS : va_S A s.heap s.heap [] := va_S.rf
  refine lv_aload_n hx hb dX2_copyFrom_0 rfl (lv_at hl 0 rfl) ?_
  refine lv_aload_n hx hb dX2_copyFrom_1 rfl (lv_at hl 1 rfl) ?_
  refine w_get cx hP 4 2 0 rfl rfl (by decide) m_69 rfl rfl dX2_copyFrom_2 ?_
  refine w_put cx hP hD hS 0 2 0 rfl rfl (by decide) m_69 rfl rfl rfl (Nat.le_of_ble_eq_true rfl) dX2_copyFrom_5 [ob h_t 2 [.int p1_vertices, .int t_edges, .ref h_t_firsts, .ref h_t_seconds, .ref h_t_signs], aI g h_t_firsts 9 a_t_firsts, aI g h_t_seconds 9 a_t_seconds, aI g h_t_signs 9 a_t_signs, ob h_p1 2 [.int p1_vertices, .int p1_edges, .ref h_p1_firsts, .ref h_p1_seconds, .ref h_p1_signs], aI g h_p1_firsts 9 a_p1_firsts, aI g h_p1_seconds 9 a_p1_seconds, aI g h_p1_signs 9 a_p1_signs] rfl (fun H locs hP hD hS => ?_)
  refine lv_aload_n hx hb dX2_copyFrom_8 rfl (lv_at hl 0 rfl) ?_
  refine lv_aload_n hx hb dX2_copyFrom_9 rfl (lv_at hl 1 rfl) ?_
  refine w_get cx hP 4 2 1 rfl rfl (by decide) m_73 rfl rfl dX2_copyFrom_10 ?_
  refine w_put cx hP hD hS 0 2 1 rfl rfl (by decide) m_73 rfl rfl rfl (Nat.le_of_ble_eq_true rfl) dX2_copyFrom_13 [ob h_t 2 [.int p1_vertices, .int p1_edges, .ref h_t_firsts, .ref h_t_seconds, .ref h_t_signs], aI g h_t_firsts 9 a_t_firsts, aI g h_t_seconds 9 a_t_seconds, aI g h_t_signs 9 a_t_signs, ob h_p1 2 [.int p1_vertices, .int p1_edges, .ref h_p1_firsts, .ref h_p1_seconds, .ref h_p1_signs], aI g h_p1_firsts 9 a_p1_firsts, aI g h_p1_seconds 9 a_p1_seconds, aI g h_p1_signs 9 a_p1_signs] rfl (fun H locs hP hD hS => ?_)
  refine lv_iconst (v := (nI 0)) hx hb dX2_copyFrom_16 (by decide) ?_
  refine lv_istore_n (lv' := [(2, .int (nI 0)), (0, .ref h_t), (1, .ref h_p1)]) hx hb dX2_copyFrom_17 rfl hl (by decide) rfl (fun ls hl => ?_)
  obtain ⟨r_18, hw, hM⟩ := bd_some hM
  obtain ⟨n, hn⟩ := wh_some hw
  clear hw
  have hE_18_0 : ∀ (H : Heap) (locs : List Loc) (ls : Array Slot), va_P (gD g) vwCl [ob h_t 2 [.int p1_vertices, .int p1_edges, .ref h_t_firsts, .ref h_t_seconds, .ref h_t_signs], aI g h_t_firsts 9 r_18.1, aI g h_t_seconds 9 r_18.2.1, aI g h_t_signs 9 r_18.2.2, ob h_p1 2 [.int p1_vertices, .int p1_edges, .ref h_p1_firsts, .ref h_p1_seconds, .ref h_p1_signs], aI g h_p1_firsts 9 a_p1_firsts, aI g h_p1_seconds 9 a_p1_seconds, aI g h_p1_signs 9 a_p1_signs] H → va_D A [ob h_t 2 [.int p1_vertices, .int p1_edges, .ref h_t_firsts, .ref h_t_seconds, .ref h_t_signs], aI g h_t_firsts 9 r_18.1, aI g h_t_seconds 9 r_18.2.1, aI g h_t_signs 9 r_18.2.2, ob h_p1 2 [.int p1_vertices, .int p1_edges, .ref h_p1_firsts, .ref h_p1_seconds, .ref h_p1_signs], aI g h_p1_firsts 9 a_p1_firsts, aI g h_p1_seconds 9 a_p1_seconds, aI g h_p1_signs 9 a_p1_signs] → va_S A s.heap H locs → lv_has ls 3 [] → W p l e (rmv 0 0) s m args below meth c H locs 0 0 Q (F0 m 66 ls []) := by
    intro H locs ls hP hD hS hl
    obtain rfl := Option.some.inj hM
    exact hfin 66 _ _ _ dX2_copyFrom_66 hP hD hS
  clear hM
  have hL_18 : ∀ (n : Nat) (z_18 : Int32 × (Nat → Int32) × (Nat → Int32) × (Nat → Int32)), it (b_X2_copyFrom_18 a_p1_firsts a_p1_seconds a_p1_signs) n z_18 = some r_18 → ∀ (H : Heap) (locs : List Loc) (ls : Array Slot), va_P (gD g) vwCl [ob h_t 2 [.int p1_vertices, .int p1_edges, .ref h_t_firsts, .ref h_t_seconds, .ref h_t_signs], aI g h_t_firsts 9 z_18.2.1, aI g h_t_seconds 9 z_18.2.2.1, aI g h_t_signs 9 z_18.2.2.2, ob h_p1 2 [.int p1_vertices, .int p1_edges, .ref h_p1_firsts, .ref h_p1_seconds, .ref h_p1_signs], aI g h_p1_firsts 9 a_p1_firsts, aI g h_p1_seconds 9 a_p1_seconds, aI g h_p1_signs 9 a_p1_signs] H → va_D A [ob h_t 2 [.int p1_vertices, .int p1_edges, .ref h_t_firsts, .ref h_t_seconds, .ref h_t_signs], aI g h_t_firsts 9 z_18.2.1, aI g h_t_seconds 9 z_18.2.2.1, aI g h_t_signs 9 z_18.2.2.2, ob h_p1 2 [.int p1_vertices, .int p1_edges, .ref h_p1_firsts, .ref h_p1_seconds, .ref h_p1_signs], aI g h_p1_firsts 9 a_p1_firsts, aI g h_p1_seconds 9 a_p1_seconds, aI g h_p1_signs 9 a_p1_signs] → va_S A s.heap H locs → lv_has ls 3 [(2, .int z_18.1), (0, .ref h_t), (1, .ref h_p1)] → W p l e (rmv 0 0) s m args below meth c H locs 0 0 Q (F0 m 18 ls []) := by
    intro n
    induction n with
    | zero => intro z_18 hn; exact (it_zero hn).elim
    | succ n ih =>
      intro z_18 hn H locs ls hP hD hS hl
      obtain ⟨x, hM, hX⟩ := it_succ hn
      clear hn
      refine lv_iload_n hx hb dX2_copyFrom_18 rfl (lv_at hl 0 rfl) ?_
      refine lv_bipush (v := (nI 9)) hx hb dX2_copyFrom_19 (by decide) ?_
      refine lv_icmp_ge (tgt := 66) hx hb dX2_copyFrom_21 (by decide) (fun c_21 => ?_) (fun c_21 => ?_)
      · have hM := if_t hM c_21
        obtain rfl := Option.some.inj hM
        obtain rfl : _ = r_18 := hX
        exact hE_18_0 _ _ _ hP hD hS (lv_sub hl [] rfl)
      · have hM := if_f hM c_21
        refine lv_aload_n hx hb dX2_copyFrom_24 rfl (lv_at hl 1 rfl) ?_
        refine w_get cx hP 0 2 2 rfl rfl (by decide) m_78 rfl rfl dX2_copyFrom_25 ?_
        refine lv_iload_n hx hb dX2_copyFrom_28 rfl (lv_at hl 0 rfl) ?_
        refine lv_aload_n hx hb dX2_copyFrom_29 rfl (lv_at hl 2 rfl) ?_
        refine w_get cx hP 4 2 2 rfl rfl (by decide) m_78 rfl rfl dX2_copyFrom_30 ?_
        refine lv_iload_n hx hb dX2_copyFrom_33 rfl (lv_at hl 0 rfl) ?_
        obtain ⟨g_34, hM⟩ := gd_some hM
        refine w_iald cx hP 5 rfl g_34 dX2_copyFrom_34 ?_
        obtain ⟨g_35, hM⟩ := gd_some hM
        refine w_iast cx hP hD hS 1 rfl g_35 dX2_copyFrom_35 [ob h_t 2 [.int p1_vertices, .int p1_edges, .ref h_t_firsts, .ref h_t_seconds, .ref h_t_signs], aI g h_t_firsts 9 (upd z_18.2.1 z_18.1.toNatClampNeg (a_p1_firsts z_18.1.toNatClampNeg)), aI g h_t_seconds 9 z_18.2.2.1, aI g h_t_signs 9 z_18.2.2.2, ob h_p1 2 [.int p1_vertices, .int p1_edges, .ref h_p1_firsts, .ref h_p1_seconds, .ref h_p1_signs], aI g h_p1_firsts 9 a_p1_firsts, aI g h_p1_seconds 9 a_p1_seconds, aI g h_p1_signs 9 a_p1_signs] rfl (fun H locs hP hD hS => ?_)
        refine lv_aload_n hx hb dX2_copyFrom_36 rfl (lv_at hl 1 rfl) ?_
        refine w_get cx hP 0 2 3 rfl rfl (by decide) m_80 rfl rfl dX2_copyFrom_37 ?_
        refine lv_iload_n hx hb dX2_copyFrom_40 rfl (lv_at hl 0 rfl) ?_
        refine lv_aload_n hx hb dX2_copyFrom_41 rfl (lv_at hl 2 rfl) ?_
        refine w_get cx hP 4 2 3 rfl rfl (by decide) m_80 rfl rfl dX2_copyFrom_42 ?_
        refine lv_iload_n hx hb dX2_copyFrom_45 rfl (lv_at hl 0 rfl) ?_
        obtain ⟨g_46, hM⟩ := gd_some hM
        refine w_iald cx hP 6 rfl g_46 dX2_copyFrom_46 ?_
        obtain ⟨g_47, hM⟩ := gd_some hM
        refine w_iast cx hP hD hS 2 rfl g_47 dX2_copyFrom_47 [ob h_t 2 [.int p1_vertices, .int p1_edges, .ref h_t_firsts, .ref h_t_seconds, .ref h_t_signs], aI g h_t_firsts 9 (upd z_18.2.1 z_18.1.toNatClampNeg (a_p1_firsts z_18.1.toNatClampNeg)), aI g h_t_seconds 9 (upd z_18.2.2.1 z_18.1.toNatClampNeg (a_p1_seconds z_18.1.toNatClampNeg)), aI g h_t_signs 9 z_18.2.2.2, ob h_p1 2 [.int p1_vertices, .int p1_edges, .ref h_p1_firsts, .ref h_p1_seconds, .ref h_p1_signs], aI g h_p1_firsts 9 a_p1_firsts, aI g h_p1_seconds 9 a_p1_seconds, aI g h_p1_signs 9 a_p1_signs] rfl (fun H locs hP hD hS => ?_)
        refine lv_aload_n hx hb dX2_copyFrom_48 rfl (lv_at hl 1 rfl) ?_
        refine w_get cx hP 0 2 4 rfl rfl (by decide) m_82 rfl rfl dX2_copyFrom_49 ?_
        refine lv_iload_n hx hb dX2_copyFrom_52 rfl (lv_at hl 0 rfl) ?_
        refine lv_aload_n hx hb dX2_copyFrom_53 rfl (lv_at hl 2 rfl) ?_
        refine w_get cx hP 4 2 4 rfl rfl (by decide) m_82 rfl rfl dX2_copyFrom_54 ?_
        refine lv_iload_n hx hb dX2_copyFrom_57 rfl (lv_at hl 0 rfl) ?_
        obtain ⟨g_58, hM⟩ := gd_some hM
        refine w_iald cx hP 7 rfl g_58 dX2_copyFrom_58 ?_
        obtain ⟨g_59, hM⟩ := gd_some hM
        refine w_iast cx hP hD hS 3 rfl g_59 dX2_copyFrom_59 [ob h_t 2 [.int p1_vertices, .int p1_edges, .ref h_t_firsts, .ref h_t_seconds, .ref h_t_signs], aI g h_t_firsts 9 (upd z_18.2.1 z_18.1.toNatClampNeg (a_p1_firsts z_18.1.toNatClampNeg)), aI g h_t_seconds 9 (upd z_18.2.2.1 z_18.1.toNatClampNeg (a_p1_seconds z_18.1.toNatClampNeg)), aI g h_t_signs 9 (upd z_18.2.2.2 z_18.1.toNatClampNeg (a_p1_signs z_18.1.toNatClampNeg)), ob h_p1 2 [.int p1_vertices, .int p1_edges, .ref h_p1_firsts, .ref h_p1_seconds, .ref h_p1_signs], aI g h_p1_firsts 9 a_p1_firsts, aI g h_p1_seconds 9 a_p1_seconds, aI g h_p1_signs 9 a_p1_signs] rfl (fun H locs hP hD hS => ?_)
        refine lv_iinc (v := z_18.1 + (nI 1)) (lv' := [(2, .int (z_18.1 + (nI 1))), (0, .ref h_t), (1, .ref h_p1)]) hx hb dX2_copyFrom_60 hl (k := 0) rfl (congrArg (fun q => z_18.1 + q) (show Int32.ofInt (1) = (nI 1) by decide)) (by decide) rfl (fun ls hl => ?_)
        refine lv_goto (tgt := 18) hx hb dX2_copyFrom_63 (by decide) ?_
        obtain rfl := Option.some.inj hM
        exact ih _ hX _ _ _ hP hD hS (lv_sub hl [0, 1, 2] rfl)
  exact hL_18 n _ hn _ _ _ hP hD hS (lv_sub hl [0, 1, 2] rfl)
noncomputable def f_X2_append (p1 : Int32) (p2 : Int32) (p3 : Int32) (t_vertices : Int32) (t_edges : Int32) (a_t_firsts : Nat → Int32) (a_t_seconds : Nat → Int32) (a_t_signs : Nat → Int32) : Option (Int32 × (Nat → Int32) × (Nat → Int32) × (Nat → Int32)) :=
  bd (f_X2_isFull t_vertices t_edges) (fun (q_1 : Int32) => if q_1 = 0 then gd (inb t_edges 9) (gd (inb t_edges 9) (gd (inb t_edges 9) (some ((t_edges + (nI 1)), upd a_t_firsts t_edges.toNatClampNeg p1, upd a_t_seconds t_edges.toNatClampNeg p2, upd a_t_signs t_edges.toNatClampNeg p3)))) else some (t_edges, a_t_firsts, a_t_seconds, a_t_signs))
theorem yq_X2_append : yq yX2_append 3 := by unfold yq; decide +kernel
set_option maxHeartbeats 4000000 in
set_option maxRecDepth 100000 in
theorem c_X2_append (g : GG) (l : Launch) (h_t : Nat) (h_t_firsts : Nat) (h_t_seconds : Nat) (h_t_signs : Nat) (p1 : Int32) (p2 : Int32) (p3 : Int32) (t_vertices : Int32) (t_edges : Int32) (a_t_firsts : Nat → Int32) (a_t_seconds : Nat → Int32) (a_t_signs : Nat → Int32) {R : Int32 × (Nat → Int32) × (Nat → Int32) × (Nat → Int32)} (hM : f_X2_append p1 p2 p3 t_vertices t_edges a_t_firsts a_t_seconds a_t_signs = some R) : CT g l yX2_append cX2_append 4 none 1 20 [.ref h_t, .int p1, .int p2, .int p3] [ob h_t 2 [.int t_vertices, .int t_edges, .ref h_t_firsts, .ref h_t_seconds, .ref h_t_signs], aI g h_t_firsts 9 a_t_firsts, aI g h_t_seconds 9 a_t_seconds, aI g h_t_signs 9 a_t_signs] [ob h_t 2 [.int t_vertices, .int R.1, .ref h_t_firsts, .ref h_t_seconds, .ref h_t_signs], aI g h_t_firsts 9 R.2.1, aI g h_t_seconds 9 R.2.2.1, aI g h_t_signs 9 R.2.2.2] none := by
  refine ct_v (by decide +kernel) (Nat.le_of_ble_eq_true rfl) ?_
  intro p e s m args below meth c Q A ls cx hP hD hA hl hfin
  obtain ⟨hx, hb, hml, hown, hts, hK⟩ := id cx
  have hl : lv_has ls 4 [(0, .ref h_t), (1, .int p1), (2, .int p2), (3, .int p3)] := hl
  have hS : va_S A s.heap s.heap [] := va_S.rf
  refine lv_aload_n hx hb dX2_append_0 rfl (lv_at hl 0 rfl) ?_
  obtain ⟨q_1, hc_1, hM⟩ := bd_some hM
  refine w_callV cx hP hD hS hA (c_X2_isFull g l h_t h_t_firsts h_t_seconds h_t_signs t_vertices t_edges hc_1) [0] rfl (by decide) rfl [ob h_t 2 [.int t_vertices, .int t_edges, .ref h_t_firsts, .ref h_t_seconds, .ref h_t_signs], aI g h_t_firsts 9 a_t_firsts, aI g h_t_seconds 9 a_t_seconds, aI g h_t_signs 9 a_t_signs] rfl 0 2 rfl rfl yq_X2_isFull rfl m_293 m_286 m_287 m_43 m_288 ⟨Nat.le_of_ble_eq_true rfl, Nat.le_of_ble_eq_true rfl⟩ rfl rfl hl.1 (Nat.le_of_ble_eq_true rfl) dX2_append_1 ⟨Nat.le_refl 0, Nat.le_refl 0⟩ rfl (fun H locs hP hD hS => ?_)
  refine lv_if_eq (tgt := 8) hx hb dX2_append_4 (by decide) (fun c_4 => ?_) (fun c_4 => ?_)
  · have hM := if_t hM c_4
    refine lv_aload_n hx hb dX2_append_8 rfl (lv_at hl 0 rfl) ?_
    refine w_get cx hP 0 2 2 rfl rfl (by decide) m_78 rfl rfl dX2_append_9 ?_
    refine lv_aload_n hx hb dX2_append_12 rfl (lv_at hl 0 rfl) ?_
    refine w_get cx hP 0 2 1 rfl rfl (by decide) m_73 rfl rfl dX2_append_13 ?_
    refine lv_iload_n hx hb dX2_append_16 rfl (lv_at hl 1 rfl) ?_
    obtain ⟨g_17, hM⟩ := gd_some hM
    refine w_iast cx hP hD hS 1 rfl g_17 dX2_append_17 [ob h_t 2 [.int t_vertices, .int t_edges, .ref h_t_firsts, .ref h_t_seconds, .ref h_t_signs], aI g h_t_firsts 9 (upd a_t_firsts t_edges.toNatClampNeg p1), aI g h_t_seconds 9 a_t_seconds, aI g h_t_signs 9 a_t_signs] rfl (fun H locs hP hD hS => ?_)
    refine lv_aload_n hx hb dX2_append_18 rfl (lv_at hl 0 rfl) ?_
    refine w_get cx hP 0 2 3 rfl rfl (by decide) m_80 rfl rfl dX2_append_19 ?_
    refine lv_aload_n hx hb dX2_append_22 rfl (lv_at hl 0 rfl) ?_
    refine w_get cx hP 0 2 1 rfl rfl (by decide) m_73 rfl rfl dX2_append_23 ?_
    refine lv_iload_n hx hb dX2_append_26 rfl (lv_at hl 2 rfl) ?_
    obtain ⟨g_27, hM⟩ := gd_some hM
    refine w_iast cx hP hD hS 2 rfl g_27 dX2_append_27 [ob h_t 2 [.int t_vertices, .int t_edges, .ref h_t_firsts, .ref h_t_seconds, .ref h_t_signs], aI g h_t_firsts 9 (upd a_t_firsts t_edges.toNatClampNeg p1), aI g h_t_seconds 9 (upd a_t_seconds t_edges.toNatClampNeg p2), aI g h_t_signs 9 a_t_signs] rfl (fun H locs hP hD hS => ?_)
    refine lv_aload_n hx hb dX2_append_28 rfl (lv_at hl 0 rfl) ?_
    refine w_get cx hP 0 2 4 rfl rfl (by decide) m_82 rfl rfl dX2_append_29 ?_
    refine lv_aload_n hx hb dX2_append_32 rfl (lv_at hl 0 rfl) ?_
    refine w_get cx hP 0 2 1 rfl rfl (by decide) m_73 rfl rfl dX2_append_33 ?_
    refine lv_iload_n hx hb dX2_append_36 rfl (lv_at hl 3 rfl) ?_
    obtain ⟨g_37, hM⟩ := gd_some hM
    refine w_iast cx hP hD hS 3 rfl g_37 dX2_append_37 [ob h_t 2 [.int t_vertices, .int t_edges, .ref h_t_firsts, .ref h_t_seconds, .ref h_t_signs], aI g h_t_firsts 9 (upd a_t_firsts t_edges.toNatClampNeg p1), aI g h_t_seconds 9 (upd a_t_seconds t_edges.toNatClampNeg p2), aI g h_t_signs 9 (upd a_t_signs t_edges.toNatClampNeg p3)] rfl (fun H locs hP hD hS => ?_)
    refine lv_aload_n hx hb dX2_append_38 rfl (lv_at hl 0 rfl) ?_
    refine lv_dup hx hb dX2_append_39 rfl ?_
    refine w_get cx hP 0 2 1 rfl rfl (by decide) m_73 rfl rfl dX2_append_40 ?_
    refine lv_iconst (v := (nI 1)) hx hb dX2_append_43 (by decide) ?_
    refine lv_iadd hx hb dX2_append_44 ?_
    refine w_put cx hP hD hS 0 2 1 rfl rfl (by decide) m_73 rfl rfl rfl (Nat.le_of_ble_eq_true rfl) dX2_append_45 [ob h_t 2 [.int t_vertices, .int (t_edges + (nI 1)), .ref h_t_firsts, .ref h_t_seconds, .ref h_t_signs], aI g h_t_firsts 9 (upd a_t_firsts t_edges.toNatClampNeg p1), aI g h_t_seconds 9 (upd a_t_seconds t_edges.toNatClampNeg p2), aI g h_t_signs 9 (upd a_t_signs t_edges.toNatClampNeg p3)] rfl (fun H locs hP hD hS => ?_)
    obtain rfl := Option.some.inj hM
    exact hfin 48 _ _ _ dX2_append_48 hP hD hS
  · have hM := if_f hM c_4
    obtain rfl := Option.some.inj hM
    exact hfin 7 _ _ _ dX2_append_7 hP hD hS
noncomputable def b_X2_delete_2 (t_edges : Int32) : Int32 × (Nat → Int32) × (Nat → Int32) × (Nat → Int32) → Option ((Int32 × (Nat → Int32) × (Nat → Int32) × (Nat → Int32)) ⊕ (((Nat → Int32) × (Nat → Int32) × (Nat → Int32)))) := fun z_2 =>
  if (t_edges - (nI 1)) ≤ z_2.1 then some (.inr (z_2.2.1, z_2.2.2.1, z_2.2.2.2)) else gd (inb (z_2.1 + (nI 1)) 9) (gd (inb z_2.1 9) (gd (inb (z_2.1 + (nI 1)) 9) (gd (inb z_2.1 9) (gd (inb (z_2.1 + (nI 1)) 9) (gd (inb z_2.1 9) (some (.inl (z_2.1 + (nI 1), upd z_2.2.1 z_2.1.toNatClampNeg (z_2.2.1 (z_2.1 + (nI 1)).toNatClampNeg), upd z_2.2.2.1 z_2.1.toNatClampNeg (z_2.2.2.1 (z_2.1 + (nI 1)).toNatClampNeg), upd z_2.2.2.2 z_2.1.toNatClampNeg (z_2.2.2.2 (z_2.1 + (nI 1)).toNatClampNeg)))))))))
noncomputable def f_X2_delete (p1 : Int32) (t_vertices : Int32) (t_edges : Int32) (a_t_firsts : Nat → Int32) (a_t_seconds : Nat → Int32) (a_t_signs : Nat → Int32) : Option (Int32 × (Nat → Int32) × (Nat → Int32) × (Nat → Int32)) :=
  bd (wh (b_X2_delete_2 t_edges) (p1, a_t_firsts, a_t_seconds, a_t_signs)) (fun (r_2 : (Nat → Int32) × (Nat → Int32) × (Nat → Int32)) => some ((t_edges - (nI 1)), r_2.1, r_2.2.1, r_2.2.2))
theorem yq_X2_delete : yq yX2_delete 1 := by unfold yq; decide +kernel
set_option maxHeartbeats 4000000 in
set_option maxRecDepth 100000 in
theorem c_X2_delete (g : GG) (l : Launch) (h_t : Nat) (h_t_firsts : Nat) (h_t_seconds : Nat) (h_t_signs : Nat) (p1 : Int32) (t_vertices : Int32) (t_edges : Int32) (a_t_firsts : Nat → Int32) (a_t_seconds : Nat → Int32) (a_t_signs : Nat → Int32) {R : Int32 × (Nat → Int32) × (Nat → Int32) × (Nat → Int32)} (hM : f_X2_delete p1 t_vertices t_edges a_t_firsts a_t_seconds a_t_signs = some R) : CT g l yX2_delete cX2_delete 3 none 0 0 [.ref h_t, .int p1] [ob h_t 2 [.int t_vertices, .int t_edges, .ref h_t_firsts, .ref h_t_seconds, .ref h_t_signs], aI g h_t_firsts 9 a_t_firsts, aI g h_t_seconds 9 a_t_seconds, aI g h_t_signs 9 a_t_signs] [ob h_t 2 [.int t_vertices, .int R.1, .ref h_t_firsts, .ref h_t_seconds, .ref h_t_signs], aI g h_t_firsts 9 R.2.1, aI g h_t_seconds 9 R.2.2.1, aI g h_t_signs 9 R.2.2.2] none := by
  refine ct_v (by decide +kernel) (Nat.le_of_ble_eq_true rfl) ?_
  intro p e s m args below meth c Q A ls cx hP hD hA hl hfin
  obtain ⟨hx, hb, hml, hown, hts, hK⟩ := id cx
  have hl : lv_has ls 3 [(0, .ref h_t), (1, .int p1)] := hl
  have hS : va_S A s.heap s.heap [] := va_S.rf
  refine lv_iload_n hx hb dX2_delete_0 rfl (lv_at hl 1 rfl) ?_
  refine lv_istore_n (lv' := [(2, .int p1), (0, .ref h_t), (1, .int p1)]) hx hb dX2_delete_1 rfl hl (by decide) rfl (fun ls hl => ?_)
  obtain ⟨r_2, hw, hM⟩ := bd_some hM
  obtain ⟨n, hn⟩ := wh_some hw
  clear hw
  have hE_2_0 : ∀ (H : Heap) (locs : List Loc) (ls : Array Slot), va_P (gD g) vwCl [ob h_t 2 [.int t_vertices, .int t_edges, .ref h_t_firsts, .ref h_t_seconds, .ref h_t_signs], aI g h_t_firsts 9 r_2.1, aI g h_t_seconds 9 r_2.2.1, aI g h_t_signs 9 r_2.2.2] H → va_D A [ob h_t 2 [.int t_vertices, .int t_edges, .ref h_t_firsts, .ref h_t_seconds, .ref h_t_signs], aI g h_t_firsts 9 r_2.1, aI g h_t_seconds 9 r_2.2.1, aI g h_t_signs 9 r_2.2.2] → va_S A s.heap H locs → lv_has ls 3 [(0, .ref h_t)] → W p l e (rmv 0 0) s m args below meth c H locs 0 0 Q (F0 m 60 ls []) := by
    intro H locs ls hP hD hS hl
    refine lv_aload_n hx hb dX2_delete_60 rfl (lv_at hl 0 rfl) ?_
    refine lv_dup hx hb dX2_delete_61 rfl ?_
    refine w_get cx hP 0 2 1 rfl rfl (by decide) m_73 rfl rfl dX2_delete_62 ?_
    refine lv_iconst (v := (nI 1)) hx hb dX2_delete_65 (by decide) ?_
    refine lv_isub hx hb dX2_delete_66 ?_
    refine w_put cx hP hD hS 0 2 1 rfl rfl (by decide) m_73 rfl rfl rfl (Nat.le_of_ble_eq_true rfl) dX2_delete_67 [ob h_t 2 [.int t_vertices, .int (t_edges - (nI 1)), .ref h_t_firsts, .ref h_t_seconds, .ref h_t_signs], aI g h_t_firsts 9 r_2.1, aI g h_t_seconds 9 r_2.2.1, aI g h_t_signs 9 r_2.2.2] rfl (fun H locs hP hD hS => ?_)
    obtain rfl := Option.some.inj hM
    exact hfin 70 _ _ _ dX2_delete_70 hP hD hS
  clear hM
  have hL_2 : ∀ (n : Nat) (z_2 : Int32 × (Nat → Int32) × (Nat → Int32) × (Nat → Int32)), it (b_X2_delete_2 t_edges) n z_2 = some r_2 → ∀ (H : Heap) (locs : List Loc) (ls : Array Slot), va_P (gD g) vwCl [ob h_t 2 [.int t_vertices, .int t_edges, .ref h_t_firsts, .ref h_t_seconds, .ref h_t_signs], aI g h_t_firsts 9 z_2.2.1, aI g h_t_seconds 9 z_2.2.2.1, aI g h_t_signs 9 z_2.2.2.2] H → va_D A [ob h_t 2 [.int t_vertices, .int t_edges, .ref h_t_firsts, .ref h_t_seconds, .ref h_t_signs], aI g h_t_firsts 9 z_2.2.1, aI g h_t_seconds 9 z_2.2.2.1, aI g h_t_signs 9 z_2.2.2.2] → va_S A s.heap H locs → lv_has ls 3 [(2, .int z_2.1), (0, .ref h_t)] → W p l e (rmv 0 0) s m args below meth c H locs 0 0 Q (F0 m 2 ls []) := by
    intro n
    induction n with
    | zero => intro z_2 hn; exact (it_zero hn).elim
    | succ n ih =>
      intro z_2 hn H locs ls hP hD hS hl
      obtain ⟨x, hM, hX⟩ := it_succ hn
      clear hn
      refine lv_iload_n hx hb dX2_delete_2 rfl (lv_at hl 0 rfl) ?_
      refine lv_aload_n hx hb dX2_delete_3 rfl (lv_at hl 1 rfl) ?_
      refine w_get cx hP 0 2 1 rfl rfl (by decide) m_73 rfl rfl dX2_delete_4 ?_
      refine lv_iconst (v := (nI 1)) hx hb dX2_delete_7 (by decide) ?_
      refine lv_isub hx hb dX2_delete_8 ?_
      refine lv_icmp_ge (tgt := 60) hx hb dX2_delete_9 (by decide) (fun c_9 => ?_) (fun c_9 => ?_)
      · have hM := if_t hM c_9
        obtain rfl := Option.some.inj hM
        obtain rfl : _ = r_2 := hX
        exact hE_2_0 _ _ _ hP hD hS (lv_sub hl [1] rfl)
      · have hM := if_f hM c_9
        refine lv_aload_n hx hb dX2_delete_12 rfl (lv_at hl 1 rfl) ?_
        refine w_get cx hP 0 2 2 rfl rfl (by decide) m_78 rfl rfl dX2_delete_13 ?_
        refine lv_iload_n hx hb dX2_delete_16 rfl (lv_at hl 0 rfl) ?_
        refine lv_aload_n hx hb dX2_delete_17 rfl (lv_at hl 1 rfl) ?_
        refine w_get cx hP 0 2 2 rfl rfl (by decide) m_78 rfl rfl dX2_delete_18 ?_
        refine lv_iload_n hx hb dX2_delete_21 rfl (lv_at hl 0 rfl) ?_
        refine lv_iconst (v := (nI 1)) hx hb dX2_delete_22 (by decide) ?_
        refine lv_iadd hx hb dX2_delete_23 ?_
        obtain ⟨g_24, hM⟩ := gd_some hM
        refine w_iald cx hP 1 rfl g_24 dX2_delete_24 ?_
        obtain ⟨g_25, hM⟩ := gd_some hM
        refine w_iast cx hP hD hS 1 rfl g_25 dX2_delete_25 [ob h_t 2 [.int t_vertices, .int t_edges, .ref h_t_firsts, .ref h_t_seconds, .ref h_t_signs], aI g h_t_firsts 9 (upd z_2.2.1 z_2.1.toNatClampNeg (z_2.2.1 (z_2.1 + (nI 1)).toNatClampNeg)), aI g h_t_seconds 9 z_2.2.2.1, aI g h_t_signs 9 z_2.2.2.2] rfl (fun H locs hP hD hS => ?_)
        refine lv_aload_n hx hb dX2_delete_26 rfl (lv_at hl 1 rfl) ?_
        refine w_get cx hP 0 2 3 rfl rfl (by decide) m_80 rfl rfl dX2_delete_27 ?_
        refine lv_iload_n hx hb dX2_delete_30 rfl (lv_at hl 0 rfl) ?_
        refine lv_aload_n hx hb dX2_delete_31 rfl (lv_at hl 1 rfl) ?_
        refine w_get cx hP 0 2 3 rfl rfl (by decide) m_80 rfl rfl dX2_delete_32 ?_
        refine lv_iload_n hx hb dX2_delete_35 rfl (lv_at hl 0 rfl) ?_
        refine lv_iconst (v := (nI 1)) hx hb dX2_delete_36 (by decide) ?_
        refine lv_iadd hx hb dX2_delete_37 ?_
        obtain ⟨g_38, hM⟩ := gd_some hM
        refine w_iald cx hP 2 rfl g_38 dX2_delete_38 ?_
        obtain ⟨g_39, hM⟩ := gd_some hM
        refine w_iast cx hP hD hS 2 rfl g_39 dX2_delete_39 [ob h_t 2 [.int t_vertices, .int t_edges, .ref h_t_firsts, .ref h_t_seconds, .ref h_t_signs], aI g h_t_firsts 9 (upd z_2.2.1 z_2.1.toNatClampNeg (z_2.2.1 (z_2.1 + (nI 1)).toNatClampNeg)), aI g h_t_seconds 9 (upd z_2.2.2.1 z_2.1.toNatClampNeg (z_2.2.2.1 (z_2.1 + (nI 1)).toNatClampNeg)), aI g h_t_signs 9 z_2.2.2.2] rfl (fun H locs hP hD hS => ?_)
        refine lv_aload_n hx hb dX2_delete_40 rfl (lv_at hl 1 rfl) ?_
        refine w_get cx hP 0 2 4 rfl rfl (by decide) m_82 rfl rfl dX2_delete_41 ?_
        refine lv_iload_n hx hb dX2_delete_44 rfl (lv_at hl 0 rfl) ?_
        refine lv_aload_n hx hb dX2_delete_45 rfl (lv_at hl 1 rfl) ?_
        refine w_get cx hP 0 2 4 rfl rfl (by decide) m_82 rfl rfl dX2_delete_46 ?_
        refine lv_iload_n hx hb dX2_delete_49 rfl (lv_at hl 0 rfl) ?_
        refine lv_iconst (v := (nI 1)) hx hb dX2_delete_50 (by decide) ?_
        refine lv_iadd hx hb dX2_delete_51 ?_
        obtain ⟨g_52, hM⟩ := gd_some hM
        refine w_iald cx hP 3 rfl g_52 dX2_delete_52 ?_
        obtain ⟨g_53, hM⟩ := gd_some hM
        refine w_iast cx hP hD hS 3 rfl g_53 dX2_delete_53 [ob h_t 2 [.int t_vertices, .int t_edges, .ref h_t_firsts, .ref h_t_seconds, .ref h_t_signs], aI g h_t_firsts 9 (upd z_2.2.1 z_2.1.toNatClampNeg (z_2.2.1 (z_2.1 + (nI 1)).toNatClampNeg)), aI g h_t_seconds 9 (upd z_2.2.2.1 z_2.1.toNatClampNeg (z_2.2.2.1 (z_2.1 + (nI 1)).toNatClampNeg)), aI g h_t_signs 9 (upd z_2.2.2.2 z_2.1.toNatClampNeg (z_2.2.2.2 (z_2.1 + (nI 1)).toNatClampNeg))] rfl (fun H locs hP hD hS => ?_)
        refine lv_iinc (v := z_2.1 + (nI 1)) (lv' := [(2, .int (z_2.1 + (nI 1))), (0, .ref h_t)]) hx hb dX2_delete_54 hl (k := 0) rfl (congrArg (fun q => z_2.1 + q) (show Int32.ofInt (1) = (nI 1) by decide)) (by decide) rfl (fun ls hl => ?_)
        refine lv_goto (tgt := 2) hx hb dX2_delete_57 (by decide) ?_
        obtain rfl := Option.some.inj hM
        exact ih _ hX _ _ _ hP hD hS (lv_sub hl [0, 1] rfl)
  exact hL_2 n _ hn _ _ _ hP hD hS (lv_sub hl [0, 1] rfl)
noncomputable def f_X2_startOf (p1 : Int32) (t_vertices : Int32) (t_edges : Int32) (a_t_firsts : Nat → Int32) (a_t_seconds : Nat → Int32) : Option (Int32) :=
  if (p1 - p1 / (nI 2) * (nI 2)) = 0 then gd (inb (p1 / (nI 2)) 9) (some (a_t_firsts (p1 / (nI 2)).toNatClampNeg)) else gd (inb (p1 / (nI 2)) 9) (some (a_t_seconds (p1 / (nI 2)).toNatClampNeg))
theorem yq_X2_startOf : yq yX2_startOf 1 := by unfold yq; decide +kernel
set_option maxHeartbeats 4000000 in
set_option maxRecDepth 100000 in
theorem c_X2_startOf (g : GG) (l : Launch) (h_t : Nat) (h_t_firsts : Nat) (h_t_seconds : Nat) (h_t_signs : Nat) (p1 : Int32) (t_vertices : Int32) (t_edges : Int32) (a_t_firsts : Nat → Int32) (a_t_seconds : Nat → Int32) {R : Int32} (hM : f_X2_startOf p1 t_vertices t_edges a_t_firsts a_t_seconds = some R) : CT g l yX2_startOf cX2_startOf 2 (some .int) 0 0 [.ref h_t, .int p1] [ob h_t 2 [.int t_vertices, .int t_edges, .ref h_t_firsts, .ref h_t_seconds, .ref h_t_signs], aI g h_t_firsts 9 a_t_firsts, aI g h_t_seconds 9 a_t_seconds] [ob h_t 2 [.int t_vertices, .int t_edges, .ref h_t_firsts, .ref h_t_seconds, .ref h_t_signs], aI g h_t_firsts 9 a_t_firsts, aI g h_t_seconds 9 a_t_seconds] (some (.int R)) := by
  refine ct_i (by decide +kernel) (Nat.le_of_ble_eq_true rfl) ?_
  intro p e s m args below meth c Q A ls cx hP hD hA hl hfin
  obtain ⟨hx, hb, hml, hown, hts, hK⟩ := id cx
  have hl : lv_has ls 2 [(0, .ref h_t), (1, .int p1)] := hl
  have hS : va_S A s.heap s.heap [] := va_S.rf
  refine lv_iload_n hx hb dX2_startOf_0 rfl (lv_at hl 1 rfl) ?_
  refine lv_iconst (v := (nI 2)) hx hb dX2_startOf_1 (by decide) ?_
  refine lv_irem hx hb dX2_startOf_2 (by decide) ?_
  refine lv_if_ne (tgt := 17) hx hb dX2_startOf_3 (by decide) (fun c_3 => ?_) (fun c_3 => ?_)
  · have hM := if_f hM c_3
    refine lv_aload_n hx hb dX2_startOf_17 rfl (lv_at hl 0 rfl) ?_
    refine w_get cx hP 0 2 3 rfl rfl (by decide) m_80 rfl rfl dX2_startOf_18 ?_
    refine lv_iload_n hx hb dX2_startOf_21 rfl (lv_at hl 1 rfl) ?_
    refine lv_iconst (v := (nI 2)) hx hb dX2_startOf_22 (by decide) ?_
    refine lv_idiv hx hb dX2_startOf_23 (by decide) ?_
    obtain ⟨g_24, hM⟩ := gd_some hM
    refine w_iald cx hP 2 rfl g_24 dX2_startOf_24 ?_
    obtain rfl := Option.some.inj hM
    exact hfin 25 _ _ _ dX2_startOf_25 hP hD hS
  · have hM := if_t hM c_3
    refine lv_aload_n hx hb dX2_startOf_6 rfl (lv_at hl 0 rfl) ?_
    refine w_get cx hP 0 2 2 rfl rfl (by decide) m_78 rfl rfl dX2_startOf_7 ?_
    refine lv_iload_n hx hb dX2_startOf_10 rfl (lv_at hl 1 rfl) ?_
    refine lv_iconst (v := (nI 2)) hx hb dX2_startOf_11 (by decide) ?_
    refine lv_idiv hx hb dX2_startOf_12 (by decide) ?_
    obtain ⟨g_13, hM⟩ := gd_some hM
    refine w_iald cx hP 1 rfl g_13 dX2_startOf_13 ?_
    refine lv_goto (tgt := 25) hx hb dX2_startOf_14 (by decide) ?_
    obtain rfl := Option.some.inj hM
    exact hfin 25 _ _ _ dX2_startOf_25 hP hD hS
noncomputable def f_X2_endOf (p1 : Int32) (t_vertices : Int32) (t_edges : Int32) (a_t_firsts : Nat → Int32) (a_t_seconds : Nat → Int32) : Option (Int32) :=
  if (p1 - p1 / (nI 2) * (nI 2)) = 0 then gd (inb (p1 / (nI 2)) 9) (some (a_t_seconds (p1 / (nI 2)).toNatClampNeg)) else gd (inb (p1 / (nI 2)) 9) (some (a_t_firsts (p1 / (nI 2)).toNatClampNeg))
theorem yq_X2_endOf : yq yX2_endOf 1 := by unfold yq; decide +kernel
set_option maxHeartbeats 4000000 in
set_option maxRecDepth 100000 in
theorem c_X2_endOf (g : GG) (l : Launch) (h_t : Nat) (h_t_firsts : Nat) (h_t_seconds : Nat) (h_t_signs : Nat) (p1 : Int32) (t_vertices : Int32) (t_edges : Int32) (a_t_firsts : Nat → Int32) (a_t_seconds : Nat → Int32) {R : Int32} (hM : f_X2_endOf p1 t_vertices t_edges a_t_firsts a_t_seconds = some R) : CT g l yX2_endOf cX2_endOf 2 (some .int) 0 0 [.ref h_t, .int p1] [ob h_t 2 [.int t_vertices, .int t_edges, .ref h_t_firsts, .ref h_t_seconds, .ref h_t_signs], aI g h_t_firsts 9 a_t_firsts, aI g h_t_seconds 9 a_t_seconds] [ob h_t 2 [.int t_vertices, .int t_edges, .ref h_t_firsts, .ref h_t_seconds, .ref h_t_signs], aI g h_t_firsts 9 a_t_firsts, aI g h_t_seconds 9 a_t_seconds] (some (.int R)) := by
  refine ct_i (by decide +kernel) (Nat.le_of_ble_eq_true rfl) ?_
  intro p e s m args below meth c Q A ls cx hP hD hA hl hfin
  obtain ⟨hx, hb, hml, hown, hts, hK⟩ := id cx
  have hl : lv_has ls 2 [(0, .ref h_t), (1, .int p1)] := hl
  have hS : va_S A s.heap s.heap [] := va_S.rf
  refine lv_iload_n hx hb dX2_endOf_0 rfl (lv_at hl 1 rfl) ?_
  refine lv_iconst (v := (nI 2)) hx hb dX2_endOf_1 (by decide) ?_
  refine lv_irem hx hb dX2_endOf_2 (by decide) ?_
  refine lv_if_ne (tgt := 17) hx hb dX2_endOf_3 (by decide) (fun c_3 => ?_) (fun c_3 => ?_)
  · have hM := if_f hM c_3
    refine lv_aload_n hx hb dX2_endOf_17 rfl (lv_at hl 0 rfl) ?_
    refine w_get cx hP 0 2 2 rfl rfl (by decide) m_78 rfl rfl dX2_endOf_18 ?_
    refine lv_iload_n hx hb dX2_endOf_21 rfl (lv_at hl 1 rfl) ?_
    refine lv_iconst (v := (nI 2)) hx hb dX2_endOf_22 (by decide) ?_
    refine lv_idiv hx hb dX2_endOf_23 (by decide) ?_
    obtain ⟨g_24, hM⟩ := gd_some hM
    refine w_iald cx hP 1 rfl g_24 dX2_endOf_24 ?_
    obtain rfl := Option.some.inj hM
    exact hfin 25 _ _ _ dX2_endOf_25 hP hD hS
  · have hM := if_t hM c_3
    refine lv_aload_n hx hb dX2_endOf_6 rfl (lv_at hl 0 rfl) ?_
    refine w_get cx hP 0 2 3 rfl rfl (by decide) m_80 rfl rfl dX2_endOf_7 ?_
    refine lv_iload_n hx hb dX2_endOf_10 rfl (lv_at hl 1 rfl) ?_
    refine lv_iconst (v := (nI 2)) hx hb dX2_endOf_11 (by decide) ?_
    refine lv_idiv hx hb dX2_endOf_12 (by decide) ?_
    obtain ⟨g_13, hM⟩ := gd_some hM
    refine w_iald cx hP 2 rfl g_13 dX2_endOf_13 ?_
    refine lv_goto (tgt := 25) hx hb dX2_endOf_14 (by decide) ?_
    obtain rfl := Option.some.inj hM
    exact hfin 25 _ _ _ dX2_endOf_25 hP hD hS
noncomputable def f_X2_leadsOn (p1 : Int32) (p2 : Int32) (t_vertices : Int32) (t_edges : Int32) (a_t_firsts : Nat → Int32) (a_t_seconds : Nat → Int32) : Option (Int32) :=
  bd (f_X2_endOf p1 t_vertices t_edges a_t_firsts a_t_seconds) (fun (q_2 : Int32) => bd (f_X2_startOf p2 t_vertices t_edges a_t_firsts a_t_seconds) (fun (q_7 : Int32) => if q_2 = q_7 then if p2 = (p1 ^^^ (nI 1)) then some (nI 0) else some (nI 1) else some (nI 0)))
theorem yq_X2_leadsOn : yq yX2_leadsOn 2 := by unfold yq; decide +kernel
set_option maxHeartbeats 4000000 in
set_option maxRecDepth 100000 in
theorem c_X2_leadsOn (g : GG) (l : Launch) (h_t : Nat) (h_t_firsts : Nat) (h_t_seconds : Nat) (h_t_signs : Nat) (p1 : Int32) (p2 : Int32) (t_vertices : Int32) (t_edges : Int32) (a_t_firsts : Nat → Int32) (a_t_seconds : Nat → Int32) {R : Int32} (hM : f_X2_leadsOn p1 p2 t_vertices t_edges a_t_firsts a_t_seconds = some R) : CT g l yX2_leadsOn cX2_leadsOn 3 (some .boolean) 1 21 [.ref h_t, .int p1, .int p2] [ob h_t 2 [.int t_vertices, .int t_edges, .ref h_t_firsts, .ref h_t_seconds, .ref h_t_signs], aI g h_t_firsts 9 a_t_firsts, aI g h_t_seconds 9 a_t_seconds] [ob h_t 2 [.int t_vertices, .int t_edges, .ref h_t_firsts, .ref h_t_seconds, .ref h_t_signs], aI g h_t_firsts 9 a_t_firsts, aI g h_t_seconds 9 a_t_seconds] (some (.int R)) := by
  refine ct_z (by decide +kernel) (Nat.le_of_ble_eq_true rfl) ?_
  intro p e s m args below meth c Q A ls cx hP hD hA hl hfin
  obtain ⟨hx, hb, hml, hown, hts, hK⟩ := id cx
  have hl : lv_has ls 3 [(0, .ref h_t), (1, .int p1), (2, .int p2)] := hl
  have hS : va_S A s.heap s.heap [] := va_S.rf
  refine lv_aload_n hx hb dX2_leadsOn_0 rfl (lv_at hl 0 rfl) ?_
  refine lv_iload_n hx hb dX2_leadsOn_1 rfl (lv_at hl 1 rfl) ?_
  obtain ⟨q_2, hc_2, hM⟩ := bd_some hM
  refine w_callV cx hP hD hS hA (c_X2_endOf g l h_t h_t_firsts h_t_seconds h_t_signs p1 t_vertices t_edges a_t_firsts a_t_seconds hc_2) [0, 1, 2] rfl (by decide) rfl [ob h_t 2 [.int t_vertices, .int t_edges, .ref h_t_firsts, .ref h_t_seconds, .ref h_t_signs], aI g h_t_firsts 9 a_t_firsts, aI g h_t_seconds 9 a_t_seconds] rfl 0 2 rfl rfl yq_X2_endOf rfl m_390 m_379 m_380 m_43 m_381 ⟨Nat.le_of_ble_eq_true rfl, Nat.le_of_ble_eq_true rfl⟩ rfl rfl hl.1 (Nat.le_of_ble_eq_true rfl) dX2_leadsOn_2 ⟨Nat.le_refl 0, Nat.le_refl 0⟩ rfl (fun H locs hP hD hS => ?_)
  refine lv_aload_n hx hb dX2_leadsOn_5 rfl (lv_at hl 0 rfl) ?_
  refine lv_iload_n hx hb dX2_leadsOn_6 rfl (lv_at hl 2 rfl) ?_
  obtain ⟨q_7, hc_7, hM⟩ := bd_some hM
  refine w_callV cx hP hD hS hA (c_X2_startOf g l h_t h_t_firsts h_t_seconds h_t_signs p2 t_vertices t_edges a_t_firsts a_t_seconds hc_7) [0, 1, 2] rfl (by decide) rfl [ob h_t 2 [.int t_vertices, .int t_edges, .ref h_t_firsts, .ref h_t_seconds, .ref h_t_signs], aI g h_t_firsts 9 a_t_firsts, aI g h_t_seconds 9 a_t_seconds] rfl 0 2 rfl rfl yq_X2_startOf rfl m_391 m_392 m_393 m_43 m_394 ⟨Nat.le_of_ble_eq_true rfl, Nat.le_of_ble_eq_true rfl⟩ rfl rfl hl.1 (Nat.le_of_ble_eq_true rfl) dX2_leadsOn_7 ⟨Nat.le_refl 0, Nat.le_refl 0⟩ rfl (fun H locs hP hD hS => ?_)
  refine lv_icmp_ne (tgt := 24) hx hb dX2_leadsOn_10 (by decide) (fun c_10 => ?_) (fun c_10 => ?_)
  · have hM := if_f hM c_10
    refine lv_iconst (v := (nI 0)) hx hb dX2_leadsOn_24 (by decide) ?_
    have hz : bq (nI 0) = true := by decide
    obtain rfl := Option.some.inj hM
    exact hfin 25 _ _ _ dX2_leadsOn_25 hz hP hD hS
  · have hM := if_t hM c_10
    refine lv_iload_n hx hb dX2_leadsOn_13 rfl (lv_at hl 2 rfl) ?_
    refine lv_iload_n hx hb dX2_leadsOn_14 rfl (lv_at hl 1 rfl) ?_
    refine lv_iconst (v := (nI 1)) hx hb dX2_leadsOn_15 (by decide) ?_
    refine lv_ixor hx hb dX2_leadsOn_16 ?_
    refine lv_icmp_eq (tgt := 24) hx hb dX2_leadsOn_17 (by decide) (fun c_17 => ?_) (fun c_17 => ?_)
    · have hM := if_t hM c_17
      refine lv_iconst (v := (nI 0)) hx hb dX2_leadsOn_24 (by decide) ?_
      have hz : bq (nI 0) = true := by decide
      obtain rfl := Option.some.inj hM
      exact hfin 25 _ _ _ dX2_leadsOn_25 hz hP hD hS
    · have hM := if_f hM c_17
      refine lv_iconst (v := (nI 1)) hx hb dX2_leadsOn_20 (by decide) ?_
      refine lv_goto (tgt := 25) hx hb dX2_leadsOn_21 (by decide) ?_
      have hz : bq (nI 1) = true := by decide
      obtain rfl := Option.some.inj hM
      exact hfin 25 _ _ _ dX2_leadsOn_25 hz hP hD hS
noncomputable def b_X2_edgesAt_4 (p1 : Int32) (t_edges : Int32) (a_t_firsts : Nat → Int32) (a_t_seconds : Nat → Int32) : Int32 × Int32 → Option ((Int32 × Int32) ⊕ ((Int32))) := fun z_4 =>
  if t_edges ≤ z_4.1 then some (.inr z_4.2) else gd (inb z_4.1 9) (if (a_t_firsts z_4.1.toNatClampNeg) = p1 then some (.inl (z_4.1 + (nI 1), z_4.2 + (nI 1))) else gd (inb z_4.1 9) (if (a_t_seconds z_4.1.toNatClampNeg) = p1 then some (.inl (z_4.1 + (nI 1), z_4.2 + (nI 1))) else some (.inl (z_4.1 + (nI 1), z_4.2))))
noncomputable def f_X2_edgesAt (p1 : Int32) (t_vertices : Int32) (t_edges : Int32) (a_t_firsts : Nat → Int32) (a_t_seconds : Nat → Int32) : Option (Int32) :=
  bd (wh (b_X2_edgesAt_4 p1 t_edges a_t_firsts a_t_seconds) ((nI 0), (nI 0))) (fun (r_4 : Int32) => some r_4)
theorem yq_X2_edgesAt : yq yX2_edgesAt 1 := by unfold yq; decide +kernel
set_option maxHeartbeats 4000000 in
set_option maxRecDepth 100000 in
theorem c_X2_edgesAt (g : GG) (l : Launch) (h_t : Nat) (h_t_firsts : Nat) (h_t_seconds : Nat) (h_t_signs : Nat) (p1 : Int32) (t_vertices : Int32) (t_edges : Int32) (a_t_firsts : Nat → Int32) (a_t_seconds : Nat → Int32) {R : Int32} (hM : f_X2_edgesAt p1 t_vertices t_edges a_t_firsts a_t_seconds = some R) : CT g l yX2_edgesAt cX2_edgesAt 4 (some .int) 0 0 [.ref h_t, .int p1] [ob h_t 2 [.int t_vertices, .int t_edges, .ref h_t_firsts, .ref h_t_seconds, .ref h_t_signs], aI g h_t_firsts 9 a_t_firsts, aI g h_t_seconds 9 a_t_seconds] [ob h_t 2 [.int t_vertices, .int t_edges, .ref h_t_firsts, .ref h_t_seconds, .ref h_t_signs], aI g h_t_firsts 9 a_t_firsts, aI g h_t_seconds 9 a_t_seconds] (some (.int R)) := by
  refine ct_i (by decide +kernel) (Nat.le_of_ble_eq_true rfl) ?_
  intro p e s m args below meth c Q A ls cx hP hD hA hl hfin
  obtain ⟨hx, hb, hml, hown, hts, hK⟩ := id cx
  have hl : lv_has ls 4 [(0, .ref h_t), (1, .int p1)] := hl
  have hS : va_S A s.heap s.heap [] := va_S.rf
  refine lv_iconst (v := (nI 0)) hx hb dX2_edgesAt_0 (by decide) ?_
  refine lv_istore_n (lv' := [(2, .int (nI 0)), (0, .ref h_t), (1, .int p1)]) hx hb dX2_edgesAt_1 rfl hl (by decide) rfl (fun ls hl => ?_)
  refine lv_iconst (v := (nI 0)) hx hb dX2_edgesAt_2 (by decide) ?_
  refine lv_istore_n (lv' := [(3, .int (nI 0)), (2, .int (nI 0)), (0, .ref h_t), (1, .int p1)]) hx hb dX2_edgesAt_3 rfl hl (by decide) rfl (fun ls hl => ?_)
  obtain ⟨r_4, hw, hM⟩ := bd_some hM
  obtain ⟨n, hn⟩ := wh_some hw
  clear hw
  have hE_4_0 : ∀ (H : Heap) (locs : List Loc) (ls : Array Slot), va_P (gD g) vwCl [ob h_t 2 [.int t_vertices, .int t_edges, .ref h_t_firsts, .ref h_t_seconds, .ref h_t_signs], aI g h_t_firsts 9 a_t_firsts, aI g h_t_seconds 9 a_t_seconds] H → va_D A [ob h_t 2 [.int t_vertices, .int t_edges, .ref h_t_firsts, .ref h_t_seconds, .ref h_t_signs], aI g h_t_firsts 9 a_t_firsts, aI g h_t_seconds 9 a_t_seconds] → va_S A s.heap H locs → lv_has ls 4 [(2, .int r_4)] → W p l e (rmv 0 0) s m args below meth c H locs 0 0 Q (F0 m 41 ls []) := by
    intro H locs ls hP hD hS hl
    refine lv_iload_n hx hb dX2_edgesAt_41 rfl (lv_at hl 0 rfl) ?_
    obtain rfl := Option.some.inj hM
    exact hfin 42 _ _ _ dX2_edgesAt_42 hP hD hS
  clear hM
  have hL_4 : ∀ (n : Nat) (z_4 : Int32 × Int32), it (b_X2_edgesAt_4 p1 t_edges a_t_firsts a_t_seconds) n z_4 = some r_4 → ∀ (H : Heap) (locs : List Loc) (ls : Array Slot), va_P (gD g) vwCl [ob h_t 2 [.int t_vertices, .int t_edges, .ref h_t_firsts, .ref h_t_seconds, .ref h_t_signs], aI g h_t_firsts 9 a_t_firsts, aI g h_t_seconds 9 a_t_seconds] H → va_D A [ob h_t 2 [.int t_vertices, .int t_edges, .ref h_t_firsts, .ref h_t_seconds, .ref h_t_signs], aI g h_t_firsts 9 a_t_firsts, aI g h_t_seconds 9 a_t_seconds] → va_S A s.heap H locs → lv_has ls 4 [(3, .int z_4.1), (2, .int z_4.2), (0, .ref h_t), (1, .int p1)] → W p l e (rmv 0 0) s m args below meth c H locs 0 0 Q (F0 m 4 ls []) := by
    intro n
    induction n with
    | zero => intro z_4 hn; exact (it_zero hn).elim
    | succ n ih =>
      intro z_4 hn H locs ls hP hD hS hl
      obtain ⟨x, hM, hX⟩ := it_succ hn
      clear hn
      refine lv_iload_n hx hb dX2_edgesAt_4 rfl (lv_at hl 0 rfl) ?_
      refine lv_aload_n hx hb dX2_edgesAt_5 rfl (lv_at hl 2 rfl) ?_
      refine w_get cx hP 0 2 1 rfl rfl (by decide) m_73 rfl rfl dX2_edgesAt_6 ?_
      refine lv_icmp_ge (tgt := 41) hx hb dX2_edgesAt_9 (by decide) (fun c_9 => ?_) (fun c_9 => ?_)
      · have hM := if_t hM c_9
        obtain rfl := Option.some.inj hM
        obtain rfl : _ = r_4 := hX
        exact hE_4_0 _ _ _ hP hD hS (lv_sub hl [1] rfl)
      · have hM := if_f hM c_9
        refine lv_aload_n hx hb dX2_edgesAt_12 rfl (lv_at hl 2 rfl) ?_
        refine w_get cx hP 0 2 2 rfl rfl (by decide) m_78 rfl rfl dX2_edgesAt_13 ?_
        refine lv_iload_n hx hb dX2_edgesAt_16 rfl (lv_at hl 0 rfl) ?_
        obtain ⟨g_17, hM⟩ := gd_some hM
        refine w_iald cx hP 1 rfl g_17 dX2_edgesAt_17 ?_
        refine lv_iload_n hx hb dX2_edgesAt_18 rfl (lv_at hl 3 rfl) ?_
        refine lv_icmp_eq (tgt := 32) hx hb dX2_edgesAt_19 (by decide) (fun c_19 => ?_) (fun c_19 => ?_)
        · have hM := if_t hM c_19
          refine lv_iinc (v := z_4.2 + (nI 1)) (lv' := [(2, .int (z_4.2 + (nI 1))), (3, .int z_4.1), (0, .ref h_t), (1, .int p1)]) hx hb dX2_edgesAt_32 hl (k := 1) rfl (congrArg (fun q => z_4.2 + q) (show Int32.ofInt (1) = (nI 1) by decide)) (by decide) rfl (fun ls hl => ?_)
          refine lv_iinc (v := z_4.1 + (nI 1)) (lv' := [(3, .int (z_4.1 + (nI 1))), (2, .int (z_4.2 + (nI 1))), (0, .ref h_t), (1, .int p1)]) hx hb dX2_edgesAt_35 hl (k := 1) rfl (congrArg (fun q => z_4.1 + q) (show Int32.ofInt (1) = (nI 1) by decide)) (by decide) rfl (fun ls hl => ?_)
          refine lv_goto (tgt := 4) hx hb dX2_edgesAt_38 (by decide) ?_
          obtain rfl := Option.some.inj hM
          exact ih _ hX _ _ _ hP hD hS (lv_sub hl [0, 1, 2, 3] rfl)
        · have hM := if_f hM c_19
          refine lv_aload_n hx hb dX2_edgesAt_22 rfl (lv_at hl 2 rfl) ?_
          refine w_get cx hP 0 2 3 rfl rfl (by decide) m_80 rfl rfl dX2_edgesAt_23 ?_
          refine lv_iload_n hx hb dX2_edgesAt_26 rfl (lv_at hl 0 rfl) ?_
          obtain ⟨g_27, hM⟩ := gd_some hM
          refine w_iald cx hP 2 rfl g_27 dX2_edgesAt_27 ?_
          refine lv_iload_n hx hb dX2_edgesAt_28 rfl (lv_at hl 3 rfl) ?_
          refine lv_icmp_ne (tgt := 35) hx hb dX2_edgesAt_29 (by decide) (fun c_29 => ?_) (fun c_29 => ?_)
          · have hM := if_f hM c_29
            refine lv_iinc (v := z_4.1 + (nI 1)) (lv' := [(3, .int (z_4.1 + (nI 1))), (2, .int z_4.2), (0, .ref h_t), (1, .int p1)]) hx hb dX2_edgesAt_35 hl (k := 0) rfl (congrArg (fun q => z_4.1 + q) (show Int32.ofInt (1) = (nI 1) by decide)) (by decide) rfl (fun ls hl => ?_)
            refine lv_goto (tgt := 4) hx hb dX2_edgesAt_38 (by decide) ?_
            obtain rfl := Option.some.inj hM
            exact ih _ hX _ _ _ hP hD hS (lv_sub hl [0, 1, 2, 3] rfl)
          · have hM := if_t hM c_29
            refine lv_iinc (v := z_4.2 + (nI 1)) (lv' := [(2, .int (z_4.2 + (nI 1))), (3, .int z_4.1), (0, .ref h_t), (1, .int p1)]) hx hb dX2_edgesAt_32 hl (k := 1) rfl (congrArg (fun q => z_4.2 + q) (show Int32.ofInt (1) = (nI 1) by decide)) (by decide) rfl (fun ls hl => ?_)
            refine lv_iinc (v := z_4.1 + (nI 1)) (lv' := [(3, .int (z_4.1 + (nI 1))), (2, .int (z_4.2 + (nI 1))), (0, .ref h_t), (1, .int p1)]) hx hb dX2_edgesAt_35 hl (k := 1) rfl (congrArg (fun q => z_4.1 + q) (show Int32.ofInt (1) = (nI 1) by decide)) (by decide) rfl (fun ls hl => ?_)
            refine lv_goto (tgt := 4) hx hb dX2_edgesAt_38 (by decide) ?_
            obtain rfl := Option.some.inj hM
            exact ih _ hX _ _ _ hP hD hS (lv_sub hl [0, 1, 2, 3] rfl)
  exact hL_4 n _ hn _ _ _ hP hD hS (lv_sub hl [0, 1, 2, 3] rfl)
noncomputable def b_X2_edgesBetween_5 (p1 : Int32) (p2 : Int32) (t_edges : Int32) (a_t_firsts : Nat → Int32) (a_t_seconds : Nat → Int32) : Int32 × Int32 → Option ((Int32 × Int32) ⊕ ((Int32))) := fun z_5 =>
  if t_edges ≤ z_5.1 then some (.inr z_5.2) else gd (inb z_5.1 9) (bd (if (a_t_firsts z_5.1.toNatClampNeg) = p1 then gd (inb z_5.1 9) (if (a_t_seconds z_5.1.toNatClampNeg) = p2 then some (nI 1) else some (nI 0)) else some (nI 0)) (fun (j_22 : Int32) => gd (inb z_5.1 9) (bd (if (a_t_firsts z_5.1.toNatClampNeg) = p2 then gd (inb z_5.1 9) (if (a_t_seconds z_5.1.toNatClampNeg) = p1 then some (nI 1) else some (nI 0)) else some (nI 0)) (fun (j_51 : Int32) => if j_22 = 0 then if j_51 = 0 then some (.inl (z_5.1 + (nI 1), z_5.2)) else some (.inl (z_5.1 + (nI 1), z_5.2 + (nI 1))) else some (.inl (z_5.1 + (nI 1), z_5.2 + (nI 1)))))))
noncomputable def f_X2_edgesBetween (p1 : Int32) (p2 : Int32) (t_vertices : Int32) (t_edges : Int32) (a_t_firsts : Nat → Int32) (a_t_seconds : Nat → Int32) : Option (Int32) :=
  bd (wh (b_X2_edgesBetween_5 p1 p2 t_edges a_t_firsts a_t_seconds) ((nI 0), (nI 0))) (fun (r_5 : Int32) => some r_5)
theorem yq_X2_edgesBetween : yq yX2_edgesBetween 2 := by unfold yq; decide +kernel
set_option maxHeartbeats 4000000 in
set_option maxRecDepth 100000 in
theorem c_X2_edgesBetween (g : GG) (l : Launch) (h_t : Nat) (h_t_firsts : Nat) (h_t_seconds : Nat) (h_t_signs : Nat) (p1 : Int32) (p2 : Int32) (t_vertices : Int32) (t_edges : Int32) (a_t_firsts : Nat → Int32) (a_t_seconds : Nat → Int32) {R : Int32} (hM : f_X2_edgesBetween p1 p2 t_vertices t_edges a_t_firsts a_t_seconds = some R) : CT g l yX2_edgesBetween cX2_edgesBetween 7 (some .int) 0 0 [.ref h_t, .int p1, .int p2] [ob h_t 2 [.int t_vertices, .int t_edges, .ref h_t_firsts, .ref h_t_seconds, .ref h_t_signs], aI g h_t_firsts 9 a_t_firsts, aI g h_t_seconds 9 a_t_seconds] [ob h_t 2 [.int t_vertices, .int t_edges, .ref h_t_firsts, .ref h_t_seconds, .ref h_t_signs], aI g h_t_firsts 9 a_t_firsts, aI g h_t_seconds 9 a_t_seconds] (some (.int R)) := by
  refine ct_i (by decide +kernel) (Nat.le_of_ble_eq_true rfl) ?_
  intro p e s m args below meth c Q A ls cx hP hD hA hl hfin
  obtain ⟨hx, hb, hml, hown, hts, hK⟩ := id cx
  have hl : lv_has ls 7 [(0, .ref h_t), (1, .int p1), (2, .int p2)] := hl
  have hS : va_S A s.heap s.heap [] := va_S.rf
  refine lv_iconst (v := (nI 0)) hx hb dX2_edgesBetween_0 (by decide) ?_
  refine lv_istore_n (lv' := [(3, .int (nI 0)), (0, .ref h_t), (1, .int p1), (2, .int p2)]) hx hb dX2_edgesBetween_1 rfl hl (by decide) rfl (fun ls hl => ?_)
  refine lv_iconst (v := (nI 0)) hx hb dX2_edgesBetween_2 (by decide) ?_
  refine lv_istore (lv' := [(4, .int (nI 0)), (3, .int (nI 0)), (0, .ref h_t), (1, .int p1), (2, .int p2)]) hx hb dX2_edgesBetween_3 hl (by decide) rfl (fun ls hl => ?_)
  obtain ⟨r_5, hw, hM⟩ := bd_some hM
  obtain ⟨n, hn⟩ := wh_some hw
  clear hw
  have hE_5_0 : ∀ (H : Heap) (locs : List Loc) (ls : Array Slot), va_P (gD g) vwCl [ob h_t 2 [.int t_vertices, .int t_edges, .ref h_t_firsts, .ref h_t_seconds, .ref h_t_signs], aI g h_t_firsts 9 a_t_firsts, aI g h_t_seconds 9 a_t_seconds] H → va_D A [ob h_t 2 [.int t_vertices, .int t_edges, .ref h_t_firsts, .ref h_t_seconds, .ref h_t_signs], aI g h_t_firsts 9 a_t_firsts, aI g h_t_seconds 9 a_t_seconds] → va_S A s.heap H locs → lv_has ls 7 [(3, .int r_5)] → W p l e (rmv 0 0) s m args below meth c H locs 0 0 Q (F0 m 91 ls []) := by
    intro H locs ls hP hD hS hl
    refine lv_iload_n hx hb dX2_edgesBetween_91 rfl (lv_at hl 0 rfl) ?_
    obtain rfl := Option.some.inj hM
    exact hfin 92 _ _ _ dX2_edgesBetween_92 hP hD hS
  clear hM
  have hL_5 : ∀ (n : Nat) (z_5 : Int32 × Int32), it (b_X2_edgesBetween_5 p1 p2 t_edges a_t_firsts a_t_seconds) n z_5 = some r_5 → ∀ (H : Heap) (locs : List Loc) (ls : Array Slot), va_P (gD g) vwCl [ob h_t 2 [.int t_vertices, .int t_edges, .ref h_t_firsts, .ref h_t_seconds, .ref h_t_signs], aI g h_t_firsts 9 a_t_firsts, aI g h_t_seconds 9 a_t_seconds] H → va_D A [ob h_t 2 [.int t_vertices, .int t_edges, .ref h_t_firsts, .ref h_t_seconds, .ref h_t_signs], aI g h_t_firsts 9 a_t_firsts, aI g h_t_seconds 9 a_t_seconds] → va_S A s.heap H locs → lv_has ls 7 [(4, .int z_5.1), (3, .int z_5.2), (0, .ref h_t), (1, .int p1), (2, .int p2)] → W p l e (rmv 0 0) s m args below meth c H locs 0 0 Q (F0 m 5 ls []) := by
    intro n
    induction n with
    | zero => intro z_5 hn; exact (it_zero hn).elim
    | succ n ih =>
      intro z_5 hn H locs ls hP hD hS hl
      obtain ⟨x, hM, hX⟩ := it_succ hn
      clear hn
      refine lv_iload hx hb dX2_edgesBetween_5 (lv_at hl 0 rfl) ?_
      refine lv_aload_n hx hb dX2_edgesBetween_7 rfl (lv_at hl 2 rfl) ?_
      refine w_get cx hP 0 2 1 rfl rfl (by decide) m_73 rfl rfl dX2_edgesBetween_8 ?_
      refine lv_icmp_ge (tgt := 91) hx hb dX2_edgesBetween_11 (by decide) (fun c_11 => ?_) (fun c_11 => ?_)
      · have hM := if_t hM c_11
        obtain rfl := Option.some.inj hM
        obtain rfl : _ = r_5 := hX
        exact hE_5_0 _ _ _ hP hD hS (lv_sub hl [1] rfl)
      · have hM := if_f hM c_11
        refine lv_aload_n hx hb dX2_edgesBetween_14 rfl (lv_at hl 2 rfl) ?_
        refine w_get cx hP 0 2 2 rfl rfl (by decide) m_78 rfl rfl dX2_edgesBetween_15 ?_
        refine lv_iload hx hb dX2_edgesBetween_18 (lv_at hl 0 rfl) ?_
        obtain ⟨g_20, hM⟩ := gd_some hM
        refine w_iald cx hP 1 rfl g_20 dX2_edgesBetween_20 ?_
        refine lv_iload_n hx hb dX2_edgesBetween_21 rfl (lv_at hl 3 rfl) ?_
        obtain ⟨j_22, hB, hM⟩ := bd_some hM
        have hJ_22 : ∀ (H : Heap) (locs : List Loc) (ls : Array Slot), va_P (gD g) vwCl [ob h_t 2 [.int t_vertices, .int t_edges, .ref h_t_firsts, .ref h_t_seconds, .ref h_t_signs], aI g h_t_firsts 9 a_t_firsts, aI g h_t_seconds 9 a_t_seconds] H → va_D A [ob h_t 2 [.int t_vertices, .int t_edges, .ref h_t_firsts, .ref h_t_seconds, .ref h_t_signs], aI g h_t_firsts 9 a_t_firsts, aI g h_t_seconds 9 a_t_seconds] → va_S A s.heap H locs → lv_has ls 7 [(4, .int z_5.1), (3, .int z_5.2), (0, .ref h_t), (1, .int p1), (2, .int p2)] → W p l e (rmv 0 0) s m args below meth c H locs 0 0 Q (F0 m 41 ls [.int j_22]) := by
          intro H locs ls hP hD hS hl
          refine lv_istore (lv' := [(5, .int j_22), (4, .int z_5.1), (3, .int z_5.2), (0, .ref h_t), (1, .int p1), (2, .int p2)]) hx hb dX2_edgesBetween_41 hl (by decide) rfl (fun ls hl => ?_)
          refine lv_aload_n hx hb dX2_edgesBetween_43 rfl (lv_at hl 3 rfl) ?_
          refine w_get cx hP 0 2 2 rfl rfl (by decide) m_78 rfl rfl dX2_edgesBetween_44 ?_
          refine lv_iload hx hb dX2_edgesBetween_47 (lv_at hl 1 rfl) ?_
          obtain ⟨g_49, hM⟩ := gd_some hM
          refine w_iald cx hP 1 rfl g_49 dX2_edgesBetween_49 ?_
          refine lv_iload_n hx hb dX2_edgesBetween_50 rfl (lv_at hl 5 rfl) ?_
          obtain ⟨j_51, hB, hM⟩ := bd_some hM
          have hJ_51 : ∀ (H : Heap) (locs : List Loc) (ls : Array Slot), va_P (gD g) vwCl [ob h_t 2 [.int t_vertices, .int t_edges, .ref h_t_firsts, .ref h_t_seconds, .ref h_t_signs], aI g h_t_firsts 9 a_t_firsts, aI g h_t_seconds 9 a_t_seconds] H → va_D A [ob h_t 2 [.int t_vertices, .int t_edges, .ref h_t_firsts, .ref h_t_seconds, .ref h_t_signs], aI g h_t_firsts 9 a_t_firsts, aI g h_t_seconds 9 a_t_seconds] → va_S A s.heap H locs → lv_has ls 7 [(5, .int j_22), (4, .int z_5.1), (3, .int z_5.2), (0, .ref h_t), (1, .int p1), (2, .int p2)] → W p l e (rmv 0 0) s m args below meth c H locs 0 0 Q (F0 m 70 ls [.int j_51]) := by
            intro H locs ls hP hD hS hl
            refine lv_istore (lv' := [(6, .int j_51), (5, .int j_22), (4, .int z_5.1), (3, .int z_5.2), (0, .ref h_t), (1, .int p1), (2, .int p2)]) hx hb dX2_edgesBetween_70 hl (by decide) rfl (fun ls hl => ?_)
            refine lv_iload hx hb dX2_edgesBetween_72 (lv_at hl 1 rfl) ?_
            refine lv_if_ne (tgt := 82) hx hb dX2_edgesBetween_74 (by decide) (fun c_74 => ?_) (fun c_74 => ?_)
            · have hM := if_f hM c_74
              refine lv_iinc (v := z_5.2 + (nI 1)) (lv' := [(3, .int (z_5.2 + (nI 1))), (6, .int j_51), (5, .int j_22), (4, .int z_5.1), (0, .ref h_t), (1, .int p1), (2, .int p2)]) hx hb dX2_edgesBetween_82 hl (k := 3) rfl (congrArg (fun q => z_5.2 + q) (show Int32.ofInt (1) = (nI 1) by decide)) (by decide) rfl (fun ls hl => ?_)
              refine lv_iinc (v := z_5.1 + (nI 1)) (lv' := [(4, .int (z_5.1 + (nI 1))), (3, .int (z_5.2 + (nI 1))), (6, .int j_51), (5, .int j_22), (0, .ref h_t), (1, .int p1), (2, .int p2)]) hx hb dX2_edgesBetween_85 hl (k := 3) rfl (congrArg (fun q => z_5.1 + q) (show Int32.ofInt (1) = (nI 1) by decide)) (by decide) rfl (fun ls hl => ?_)
              refine lv_goto (tgt := 5) hx hb dX2_edgesBetween_88 (by decide) ?_
              obtain rfl := Option.some.inj hM
              exact ih _ hX _ _ _ hP hD hS (lv_sub hl [0, 1, 4, 5, 6] rfl)
            · have hM := if_t hM c_74
              refine lv_iload hx hb dX2_edgesBetween_77 (lv_at hl 0 rfl) ?_
              refine lv_if_eq (tgt := 85) hx hb dX2_edgesBetween_79 (by decide) (fun c_79 => ?_) (fun c_79 => ?_)
              · have hM := if_t hM c_79
                refine lv_iinc (v := z_5.1 + (nI 1)) (lv' := [(4, .int (z_5.1 + (nI 1))), (6, .int j_51), (5, .int j_22), (3, .int z_5.2), (0, .ref h_t), (1, .int p1), (2, .int p2)]) hx hb dX2_edgesBetween_85 hl (k := 2) rfl (congrArg (fun q => z_5.1 + q) (show Int32.ofInt (1) = (nI 1) by decide)) (by decide) rfl (fun ls hl => ?_)
                refine lv_goto (tgt := 5) hx hb dX2_edgesBetween_88 (by decide) ?_
                obtain rfl := Option.some.inj hM
                exact ih _ hX _ _ _ hP hD hS (lv_sub hl [0, 3, 4, 5, 6] rfl)
              · have hM := if_f hM c_79
                refine lv_iinc (v := z_5.2 + (nI 1)) (lv' := [(3, .int (z_5.2 + (nI 1))), (6, .int j_51), (5, .int j_22), (4, .int z_5.1), (0, .ref h_t), (1, .int p1), (2, .int p2)]) hx hb dX2_edgesBetween_82 hl (k := 3) rfl (congrArg (fun q => z_5.2 + q) (show Int32.ofInt (1) = (nI 1) by decide)) (by decide) rfl (fun ls hl => ?_)
                refine lv_iinc (v := z_5.1 + (nI 1)) (lv' := [(4, .int (z_5.1 + (nI 1))), (3, .int (z_5.2 + (nI 1))), (6, .int j_51), (5, .int j_22), (0, .ref h_t), (1, .int p1), (2, .int p2)]) hx hb dX2_edgesBetween_85 hl (k := 3) rfl (congrArg (fun q => z_5.1 + q) (show Int32.ofInt (1) = (nI 1) by decide)) (by decide) rfl (fun ls hl => ?_)
                refine lv_goto (tgt := 5) hx hb dX2_edgesBetween_88 (by decide) ?_
                obtain rfl := Option.some.inj hM
                exact ih _ hX _ _ _ hP hD hS (lv_sub hl [0, 1, 4, 5, 6] rfl)
          clear hM
          have hM := hB
          clear hB
          refine lv_icmp_ne (tgt := 69) hx hb dX2_edgesBetween_51 (by decide) (fun c_51 => ?_) (fun c_51 => ?_)
          · have hM := if_f hM c_51
            refine lv_iconst (v := (nI 0)) hx hb dX2_edgesBetween_69 (by decide) ?_
            obtain rfl := Option.some.inj hM
            exact hJ_51 _ _ _ hP hD hS (lv_sub hl [0, 1, 2, 3, 4, 5] rfl)
          · have hM := if_t hM c_51
            refine lv_aload_n hx hb dX2_edgesBetween_54 rfl (lv_at hl 3 rfl) ?_
            refine w_get cx hP 0 2 3 rfl rfl (by decide) m_80 rfl rfl dX2_edgesBetween_55 ?_
            refine lv_iload hx hb dX2_edgesBetween_58 (lv_at hl 1 rfl) ?_
            obtain ⟨g_60, hM⟩ := gd_some hM
            refine w_iald cx hP 2 rfl g_60 dX2_edgesBetween_60 ?_
            refine lv_iload_n hx hb dX2_edgesBetween_61 rfl (lv_at hl 4 rfl) ?_
            refine lv_icmp_ne (tgt := 69) hx hb dX2_edgesBetween_62 (by decide) (fun c_62 => ?_) (fun c_62 => ?_)
            · have hM := if_f hM c_62
              refine lv_iconst (v := (nI 0)) hx hb dX2_edgesBetween_69 (by decide) ?_
              obtain rfl := Option.some.inj hM
              exact hJ_51 _ _ _ hP hD hS (lv_sub hl [0, 1, 2, 3, 4, 5] rfl)
            · have hM := if_t hM c_62
              refine lv_iconst (v := (nI 1)) hx hb dX2_edgesBetween_65 (by decide) ?_
              refine lv_goto (tgt := 70) hx hb dX2_edgesBetween_66 (by decide) ?_
              obtain rfl := Option.some.inj hM
              exact hJ_51 _ _ _ hP hD hS (lv_sub hl [0, 1, 2, 3, 4, 5] rfl)
        clear hM
        have hM := hB
        clear hB
        refine lv_icmp_ne (tgt := 40) hx hb dX2_edgesBetween_22 (by decide) (fun c_22 => ?_) (fun c_22 => ?_)
        · have hM := if_f hM c_22
          refine lv_iconst (v := (nI 0)) hx hb dX2_edgesBetween_40 (by decide) ?_
          obtain rfl := Option.some.inj hM
          exact hJ_22 _ _ _ hP hD hS (lv_sub hl [0, 1, 2, 3, 4] rfl)
        · have hM := if_t hM c_22
          refine lv_aload_n hx hb dX2_edgesBetween_25 rfl (lv_at hl 2 rfl) ?_
          refine w_get cx hP 0 2 3 rfl rfl (by decide) m_80 rfl rfl dX2_edgesBetween_26 ?_
          refine lv_iload hx hb dX2_edgesBetween_29 (lv_at hl 0 rfl) ?_
          obtain ⟨g_31, hM⟩ := gd_some hM
          refine w_iald cx hP 2 rfl g_31 dX2_edgesBetween_31 ?_
          refine lv_iload_n hx hb dX2_edgesBetween_32 rfl (lv_at hl 4 rfl) ?_
          refine lv_icmp_ne (tgt := 40) hx hb dX2_edgesBetween_33 (by decide) (fun c_33 => ?_) (fun c_33 => ?_)
          · have hM := if_f hM c_33
            refine lv_iconst (v := (nI 0)) hx hb dX2_edgesBetween_40 (by decide) ?_
            obtain rfl := Option.some.inj hM
            exact hJ_22 _ _ _ hP hD hS (lv_sub hl [0, 1, 2, 3, 4] rfl)
          · have hM := if_t hM c_33
            refine lv_iconst (v := (nI 1)) hx hb dX2_edgesBetween_36 (by decide) ?_
            refine lv_goto (tgt := 41) hx hb dX2_edgesBetween_37 (by decide) ?_
            obtain rfl := Option.some.inj hM
            exact hJ_22 _ _ _ hP hD hS (lv_sub hl [0, 1, 2, 3, 4] rfl)
  exact hL_5 n _ hn _ _ _ hP hD hS (lv_sub hl [0, 1, 2, 3, 4] rfl)
end
section
noncomputable def f_J6_bitCount_0f7a4 (p1 : Int32) : Option (Int32) :=
  nm (((p1.toUInt32 >>> ((nI 1).toUInt32 &&& Int32.toUInt32 31)).toInt32) &&& (1431655765 : Int32)) (fun (y_7 : Int32) => nm (p1 - y_7) (fun (x_9 : Int32) => nm (x_9 &&& (858993459 : Int32)) (fun (y_14 : Int32) => nm (((x_9.toUInt32 >>> ((nI 2).toUInt32 &&& Int32.toUInt32 31)).toInt32) &&& (858993459 : Int32)) (fun (y_21 : Int32) => nm (y_14 + y_21) (fun (x_23 : Int32) => nm ((x_23 + ((x_23.toUInt32 >>> ((nI 4).toUInt32 &&& Int32.toUInt32 31)).toInt32)) &&& (252645135 : Int32)) (fun (y_32 : Int32) => nm (y_32 + ((y_32.toUInt32 >>> ((nI 8).toUInt32 &&& Int32.toUInt32 31)).toInt32)) (fun (x_40 : Int32) => nm (x_40 + ((x_40.toUInt32 >>> ((nI 16).toUInt32 &&& Int32.toUInt32 31)).toInt32)) (fun (x_47 : Int32) => some (x_47 &&& (nI 63))))))))))
theorem yq_J6_bitCount_0f7a4 : yq yJ6_bitCount_0f7a4 1 := by unfold yq; decide +kernel
set_option maxHeartbeats 4000000 in
set_option maxRecDepth 100000 in
theorem c_J6_bitCount_0f7a4 (g : GG) (l : Launch) (p1 : Int32) {R : Int32} (hM : f_J6_bitCount_0f7a4 p1 = some R) : CT g l yJ6_bitCount_0f7a4 cJ6_bitCount_0f7a4 1 (some .int) 0 0 [.int p1] [] [] (some (.int R)) := by
  refine ct_i (by decide +kernel) (Nat.le_of_ble_eq_true rfl) ?_
  intro p e s m args below meth c Q A ls cx hP hD hA hl hfin
  obtain ⟨hx, hb, hml, hown, hts, hK⟩ := id cx
  have hl : lv_has ls 1 [(0, .int p1)] := hl
  have hS : va_S A s.heap s.heap [] := va_S.rf
  refine lv_iload_n hx hb dJ6_bitCount_0f7a4_0 rfl (lv_at hl 0 rfl) ?_
  refine lv_iload_n hx hb dJ6_bitCount_0f7a4_1 rfl (lv_at hl 0 rfl) ?_
  refine lv_iconst (v := (nI 1)) hx hb dJ6_bitCount_0f7a4_2 (by decide) ?_
  refine lv_iushr (v := (p1.toUInt32 >>> ((nI 1).toUInt32 &&& Int32.toUInt32 31)).toInt32) hx hb dJ6_bitCount_0f7a4_3 rfl ?_
  refine lv_ldcw hx hb hown (hts _ m_567) dJ6_bitCount_0f7a4_4 ?_
  refine lv_iand hx hb dJ6_bitCount_0f7a4_7 ?_
  refine lv_topi (fun y_7 ey_7 => ?_)
  have hM := nm_some hM y_7 ey_7
  refine lv_isub hx hb dJ6_bitCount_0f7a4_8 ?_
  refine lv_topi (fun x_9 ex_9 => ?_)
  have hM := nm_some hM x_9 ex_9
  refine lv_istore_n (lv' := [(0, .int x_9)]) hx hb dJ6_bitCount_0f7a4_9 rfl hl (by decide) rfl (fun ls hl => ?_)
  refine lv_iload_n hx hb dJ6_bitCount_0f7a4_10 rfl (lv_at hl 0 rfl) ?_
  refine lv_ldcw hx hb hown (hts _ m_568) dJ6_bitCount_0f7a4_11 ?_
  refine lv_iand hx hb dJ6_bitCount_0f7a4_14 ?_
  refine lv_topi (fun y_14 ey_14 => ?_)
  have hM := nm_some hM y_14 ey_14
  refine lv_iload_n hx hb dJ6_bitCount_0f7a4_15 rfl (lv_at hl 0 rfl) ?_
  refine lv_iconst (v := (nI 2)) hx hb dJ6_bitCount_0f7a4_16 (by decide) ?_
  refine lv_iushr (v := (x_9.toUInt32 >>> ((nI 2).toUInt32 &&& Int32.toUInt32 31)).toInt32) hx hb dJ6_bitCount_0f7a4_17 rfl ?_
  refine lv_ldcw hx hb hown (hts _ m_568) dJ6_bitCount_0f7a4_18 ?_
  refine lv_iand hx hb dJ6_bitCount_0f7a4_21 ?_
  refine lv_topi (fun y_21 ey_21 => ?_)
  have hM := nm_some hM y_21 ey_21
  refine lv_iadd hx hb dJ6_bitCount_0f7a4_22 ?_
  refine lv_topi (fun x_23 ex_23 => ?_)
  have hM := nm_some hM x_23 ex_23
  refine lv_istore_n (lv' := [(0, .int x_23)]) hx hb dJ6_bitCount_0f7a4_23 rfl hl (by decide) rfl (fun ls hl => ?_)
  refine lv_iload_n hx hb dJ6_bitCount_0f7a4_24 rfl (lv_at hl 0 rfl) ?_
  refine lv_iload_n hx hb dJ6_bitCount_0f7a4_25 rfl (lv_at hl 0 rfl) ?_
  refine lv_iconst (v := (nI 4)) hx hb dJ6_bitCount_0f7a4_26 (by decide) ?_
  refine lv_iushr (v := (x_23.toUInt32 >>> ((nI 4).toUInt32 &&& Int32.toUInt32 31)).toInt32) hx hb dJ6_bitCount_0f7a4_27 rfl ?_
  refine lv_iadd hx hb dJ6_bitCount_0f7a4_28 ?_
  refine lv_ldcw hx hb hown (hts _ m_569) dJ6_bitCount_0f7a4_29 ?_
  refine lv_iand hx hb dJ6_bitCount_0f7a4_32 ?_
  refine lv_topi (fun y_32 ey_32 => ?_)
  have hM := nm_some hM y_32 ey_32
  refine lv_istore_n (lv' := [(0, .int y_32)]) hx hb dJ6_bitCount_0f7a4_33 rfl hl (by decide) rfl (fun ls hl => ?_)
  refine lv_iload_n hx hb dJ6_bitCount_0f7a4_34 rfl (lv_at hl 0 rfl) ?_
  refine lv_iload_n hx hb dJ6_bitCount_0f7a4_35 rfl (lv_at hl 0 rfl) ?_
  refine lv_bipush (v := (nI 8)) hx hb dJ6_bitCount_0f7a4_36 (by decide) ?_
  refine lv_iushr (v := (y_32.toUInt32 >>> ((nI 8).toUInt32 &&& Int32.toUInt32 31)).toInt32) hx hb dJ6_bitCount_0f7a4_38 rfl ?_
  refine lv_iadd hx hb dJ6_bitCount_0f7a4_39 ?_
  refine lv_topi (fun x_40 ex_40 => ?_)
  have hM := nm_some hM x_40 ex_40
  refine lv_istore_n (lv' := [(0, .int x_40)]) hx hb dJ6_bitCount_0f7a4_40 rfl hl (by decide) rfl (fun ls hl => ?_)
  refine lv_iload_n hx hb dJ6_bitCount_0f7a4_41 rfl (lv_at hl 0 rfl) ?_
  refine lv_iload_n hx hb dJ6_bitCount_0f7a4_42 rfl (lv_at hl 0 rfl) ?_
  refine lv_bipush (v := (nI 16)) hx hb dJ6_bitCount_0f7a4_43 (by decide) ?_
  refine lv_iushr (v := (x_40.toUInt32 >>> ((nI 16).toUInt32 &&& Int32.toUInt32 31)).toInt32) hx hb dJ6_bitCount_0f7a4_45 rfl ?_
  refine lv_iadd hx hb dJ6_bitCount_0f7a4_46 ?_
  refine lv_topi (fun x_47 ex_47 => ?_)
  have hM := nm_some hM x_47 ex_47
  refine lv_istore_n (lv' := [(0, .int x_47)]) hx hb dJ6_bitCount_0f7a4_47 rfl hl (by decide) rfl (fun ls hl => ?_)
  refine lv_iload_n hx hb dJ6_bitCount_0f7a4_48 rfl (lv_at hl 0 rfl) ?_
  refine lv_bipush (v := (nI 63)) hx hb dJ6_bitCount_0f7a4_49 (by decide) ?_
  refine lv_iand hx hb dJ6_bitCount_0f7a4_51 ?_
  obtain rfl := Option.some.inj hM
  exact hfin 52 _ _ _ dJ6_bitCount_0f7a4_52 hP hD hS
noncomputable def b_J7_fill_d0a16_6 (p2 : Int64) (n_p1 : Nat) (x_4 : Int32) : Int32 × (Nat → Int64) → Option ((Int32 × (Nat → Int64)) ⊕ ((Nat → Int64))) := fun z_6 =>
  if x_4 ≤ z_6.1 then some (.inr z_6.2) else gd (inb z_6.1 n_p1) (some (.inl (z_6.1 + (nI 1), vp_updL z_6.2 z_6.1.toNatClampNeg p2)))
noncomputable def f_J7_fill_d0a16 (p2 : Int64) (n_p1 : Nat) (a_p1 : Nat → Int64) : Option (Nat → Int64) :=
  nm (nI n_p1) (fun (x_4 : Int32) => bd (wh (b_J7_fill_d0a16_6 p2 n_p1 x_4) ((nI 0), a_p1)) (fun (r_6 : Nat → Int64) => some r_6))
theorem yq_J7_fill_d0a16 : yq yJ7_fill_d0a16 2 := by unfold yq; decide +kernel
set_option maxHeartbeats 4000000 in
set_option maxRecDepth 100000 in
theorem c_J7_fill_d0a16 (g : GG) (l : Launch) (h_p1 : Nat) (p2 : Int64) (n_p1 : Nat) (a_p1 : Nat → Int64) {R : Nat → Int64} (hM : f_J7_fill_d0a16 p2 n_p1 a_p1 = some R) : CT g l yJ7_fill_d0a16 cJ7_fill_d0a16 5 none 0 0 [.ref h_p1, .long p2] [aJ g h_p1 n_p1 a_p1] [aJ g h_p1 n_p1 R] none := by
  refine ct_v (by decide +kernel) (Nat.le_of_ble_eq_true rfl) ?_
  intro p e s m args below meth c Q A ls cx hP hD hA hl hfin
  obtain ⟨hx, hb, hml, hown, hts, hK⟩ := id cx
  have hl : lv_has ls 5 [(0, .ref h_p1), (1, .long p2)] := hl
  have hS : va_S A s.heap s.heap [] := va_S.rf
  refine lv_iconst (v := (nI 0)) hx hb dJ7_fill_d0a16_0 (by decide) ?_
  refine lv_istore_n (lv' := [(3, .int (nI 0)), (0, .ref h_p1), (1, .long p2)]) hx hb dJ7_fill_d0a16_1 rfl hl (by decide) rfl (fun ls hl => ?_)
  refine lv_aload_n hx hb dJ7_fill_d0a16_2 rfl (lv_at hl 1 rfl) ?_
  refine w_alen cx hP 0 rfl dJ7_fill_d0a16_3 ?_
  refine lv_topi (fun x_4 ex_4 => ?_)
  have hM := nm_some hM x_4 ex_4
  refine lv_istore (lv' := [(4, .int x_4), (3, .int (nI 0)), (0, .ref h_p1), (1, .long p2)]) hx hb dJ7_fill_d0a16_4 hl (by decide) rfl (fun ls hl => ?_)
  obtain ⟨r_6, hw, hM⟩ := bd_some hM
  obtain ⟨n, hn⟩ := wh_some hw
  clear hw
  have hE_6_0 : ∀ (H : Heap) (locs : List Loc) (ls : Array Slot), va_P (gD g) vwCl [aJ g h_p1 n_p1 r_6] H → va_D A [aJ g h_p1 n_p1 r_6] → va_S A s.heap H locs → lv_has ls 5 [] → W p l e (rmv 0 0) s m args below meth c H locs 0 0 Q (F0 m 22 ls []) := by
    intro H locs ls hP hD hS hl
    obtain rfl := Option.some.inj hM
    exact hfin 22 _ _ _ dJ7_fill_d0a16_22 hP hD hS
  clear hM
  have hL_6 : ∀ (n : Nat) (z_6 : Int32 × (Nat → Int64)), it (b_J7_fill_d0a16_6 p2 n_p1 x_4) n z_6 = some r_6 → ∀ (H : Heap) (locs : List Loc) (ls : Array Slot), va_P (gD g) vwCl [aJ g h_p1 n_p1 z_6.2] H → va_D A [aJ g h_p1 n_p1 z_6.2] → va_S A s.heap H locs → lv_has ls 5 [(4, .int x_4), (3, .int z_6.1), (0, .ref h_p1), (1, .long p2)] → W p l e (rmv 0 0) s m args below meth c H locs 0 0 Q (F0 m 6 ls []) := by
    intro n
    induction n with
    | zero => intro z_6 hn; exact (it_zero hn).elim
    | succ n ih =>
      intro z_6 hn H locs ls hP hD hS hl
      obtain ⟨x, hM, hX⟩ := it_succ hn
      clear hn
      refine lv_iload_n hx hb dJ7_fill_d0a16_6 rfl (lv_at hl 1 rfl) ?_
      refine lv_iload hx hb dJ7_fill_d0a16_7 (lv_at hl 0 rfl) ?_
      refine lv_icmp_ge (tgt := 22) hx hb dJ7_fill_d0a16_9 (by decide) (fun c_9 => ?_) (fun c_9 => ?_)
      · have hM := if_t hM c_9
        obtain rfl := Option.some.inj hM
        obtain rfl : _ = r_6 := hX
        exact hE_6_0 _ _ _ hP hD hS (lv_sub hl [] rfl)
      · have hM := if_f hM c_9
        refine lv_aload_n hx hb dJ7_fill_d0a16_12 rfl (lv_at hl 2 rfl) ?_
        refine lv_iload_n hx hb dJ7_fill_d0a16_13 rfl (lv_at hl 1 rfl) ?_
        refine lv_lload_n hx hb dJ7_fill_d0a16_14 rfl (lv_at hl 3 rfl) ?_
        obtain ⟨g_15, hM⟩ := gd_some hM
        refine w_last cx hP hD hS 0 rfl g_15 dJ7_fill_d0a16_15 [aJ g h_p1 n_p1 (vp_updL z_6.2 z_6.1.toNatClampNeg p2)] rfl (fun H locs hP hD hS => ?_)
        refine lv_iinc (v := z_6.1 + (nI 1)) (lv' := [(3, .int (z_6.1 + (nI 1))), (4, .int x_4), (0, .ref h_p1), (1, .long p2)]) hx hb dJ7_fill_d0a16_16 hl (k := 1) rfl (congrArg (fun q => z_6.1 + q) (show Int32.ofInt (1) = (nI 1) by decide)) (by decide) rfl (fun ls hl => ?_)
        refine lv_goto (tgt := 6) hx hb dJ7_fill_d0a16_19 (by decide) ?_
        obtain rfl := Option.some.inj hM
        exact ih _ hX _ _ _ hP hD hS (lv_sub hl [1, 0, 2, 3] rfl)
  exact hL_6 n _ hn _ _ _ hP hD hS (lv_sub hl [0, 1, 2, 3] rfl)
noncomputable def b_X3_separate_2 : Int32 × (Nat → Int32) × (Nat → Int32) → Option ((Int32 × (Nat → Int32) × (Nat → Int32)) ⊕ (((Nat → Int32) × (Nat → Int32)))) := fun z_2 =>
  if (nI 6) ≤ z_2.1 then some (.inr (z_2.2.1, z_2.2.2)) else gd (inb z_2.1 6) (gd (inb z_2.1 6) (some (.inl (z_2.1 + (nI 1), upd z_2.2.1 z_2.1.toNatClampNeg z_2.1, upd z_2.2.2 z_2.1.toNatClampNeg (nI 0)))))
noncomputable def f_X3_separate (a_t_groups : Nat → Int32) (a_t_sides : Nat → Int32) : Option ((Nat → Int32) × (Nat → Int32)) :=
  bd (wh b_X3_separate_2 ((nI 0), a_t_groups, a_t_sides)) (fun (r_2 : (Nat → Int32) × (Nat → Int32)) => some (r_2.1, r_2.2))
theorem yq_X3_separate : yq yX3_separate 0 := by unfold yq; decide +kernel
set_option maxHeartbeats 4000000 in
set_option maxRecDepth 100000 in
theorem c_X3_separate (g : GG) (l : Launch) (h_t : Nat) (h_t_groups : Nat) (h_t_sides : Nat) (a_t_groups : Nat → Int32) (a_t_sides : Nat → Int32) {R : (Nat → Int32) × (Nat → Int32)} (hM : f_X3_separate a_t_groups a_t_sides = some R) : CT g l yX3_separate cX3_separate 2 none 0 0 [.ref h_t] [ob h_t 3 [.ref h_t_groups, .ref h_t_sides], aI g h_t_groups 6 a_t_groups, aI g h_t_sides 6 a_t_sides] [ob h_t 3 [.ref h_t_groups, .ref h_t_sides], aI g h_t_groups 6 R.1, aI g h_t_sides 6 R.2] none := by
  refine ct_v (by decide +kernel) (Nat.le_of_ble_eq_true rfl) ?_
  intro p e s m args below meth c Q A ls cx hP hD hA hl hfin
  obtain ⟨hx, hb, hml, hown, hts, hK⟩ := id cx
  have hl : lv_has ls 2 [(0, .ref h_t)] := hl
  have hS : va_S A s.heap s.heap [] := va_S.rf
  refine lv_iconst (v := (nI 0)) hx hb dX3_separate_0 (by decide) ?_
  refine lv_istore_n (lv' := [(1, .int (nI 0)), (0, .ref h_t)]) hx hb dX3_separate_1 rfl hl (by decide) rfl (fun ls hl => ?_)
  obtain ⟨r_2, hw, hM⟩ := bd_some hM
  obtain ⟨n, hn⟩ := wh_some hw
  clear hw
  have hE_2_0 : ∀ (H : Heap) (locs : List Loc) (ls : Array Slot), va_P (gD g) vwCl [ob h_t 3 [.ref h_t_groups, .ref h_t_sides], aI g h_t_groups 6 r_2.1, aI g h_t_sides 6 r_2.2] H → va_D A [ob h_t 3 [.ref h_t_groups, .ref h_t_sides], aI g h_t_groups 6 r_2.1, aI g h_t_sides 6 r_2.2] → va_S A s.heap H locs → lv_has ls 2 [] → W p l e (rmv 0 0) s m args below meth c H locs 0 0 Q (F0 m 28 ls []) := by
    intro H locs ls hP hD hS hl
    obtain rfl := Option.some.inj hM
    exact hfin 28 _ _ _ dX3_separate_28 hP hD hS
  clear hM
  have hL_2 : ∀ (n : Nat) (z_2 : Int32 × (Nat → Int32) × (Nat → Int32)), it b_X3_separate_2 n z_2 = some r_2 → ∀ (H : Heap) (locs : List Loc) (ls : Array Slot), va_P (gD g) vwCl [ob h_t 3 [.ref h_t_groups, .ref h_t_sides], aI g h_t_groups 6 z_2.2.1, aI g h_t_sides 6 z_2.2.2] H → va_D A [ob h_t 3 [.ref h_t_groups, .ref h_t_sides], aI g h_t_groups 6 z_2.2.1, aI g h_t_sides 6 z_2.2.2] → va_S A s.heap H locs → lv_has ls 2 [(1, .int z_2.1), (0, .ref h_t)] → W p l e (rmv 0 0) s m args below meth c H locs 0 0 Q (F0 m 2 ls []) := by
    intro n
    induction n with
    | zero => intro z_2 hn; exact (it_zero hn).elim
    | succ n ih =>
      intro z_2 hn H locs ls hP hD hS hl
      obtain ⟨x, hM, hX⟩ := it_succ hn
      clear hn
      refine lv_iload_n hx hb dX3_separate_2 rfl (lv_at hl 0 rfl) ?_
      refine lv_bipush (v := (nI 6)) hx hb dX3_separate_3 (by decide) ?_
      refine lv_icmp_ge (tgt := 28) hx hb dX3_separate_5 (by decide) (fun c_5 => ?_) (fun c_5 => ?_)
      · have hM := if_t hM c_5
        obtain rfl := Option.some.inj hM
        obtain rfl : _ = r_2 := hX
        exact hE_2_0 _ _ _ hP hD hS (lv_sub hl [] rfl)
      · have hM := if_f hM c_5
        refine lv_aload_n hx hb dX3_separate_8 rfl (lv_at hl 1 rfl) ?_
        refine w_get cx hP 0 3 0 rfl rfl (by decide) m_148 rfl rfl dX3_separate_9 ?_
        refine lv_iload_n hx hb dX3_separate_12 rfl (lv_at hl 0 rfl) ?_
        refine lv_iload_n hx hb dX3_separate_13 rfl (lv_at hl 0 rfl) ?_
        obtain ⟨g_14, hM⟩ := gd_some hM
        refine w_iast cx hP hD hS 1 rfl g_14 dX3_separate_14 [ob h_t 3 [.ref h_t_groups, .ref h_t_sides], aI g h_t_groups 6 (upd z_2.2.1 z_2.1.toNatClampNeg z_2.1), aI g h_t_sides 6 z_2.2.2] rfl (fun H locs hP hD hS => ?_)
        refine lv_aload_n hx hb dX3_separate_15 rfl (lv_at hl 1 rfl) ?_
        refine w_get cx hP 0 3 1 rfl rfl (by decide) m_149 rfl rfl dX3_separate_16 ?_
        refine lv_iload_n hx hb dX3_separate_19 rfl (lv_at hl 0 rfl) ?_
        refine lv_iconst (v := (nI 0)) hx hb dX3_separate_20 (by decide) ?_
        obtain ⟨g_21, hM⟩ := gd_some hM
        refine w_iast cx hP hD hS 2 rfl g_21 dX3_separate_21 [ob h_t 3 [.ref h_t_groups, .ref h_t_sides], aI g h_t_groups 6 (upd z_2.2.1 z_2.1.toNatClampNeg z_2.1), aI g h_t_sides 6 (upd z_2.2.2 z_2.1.toNatClampNeg (nI 0))] rfl (fun H locs hP hD hS => ?_)
        refine lv_iinc (v := z_2.1 + (nI 1)) (lv' := [(1, .int (z_2.1 + (nI 1))), (0, .ref h_t)]) hx hb dX3_separate_22 hl (k := 0) rfl (congrArg (fun q => z_2.1 + q) (show Int32.ofInt (1) = (nI 1) by decide)) (by decide) rfl (fun ls hl => ?_)
        refine lv_goto (tgt := 2) hx hb dX3_separate_25 (by decide) ?_
        obtain rfl := Option.some.inj hM
        exact ih _ hX _ _ _ hP hD hS (lv_sub hl [0, 1] rfl)
  exact hL_2 n _ hn _ _ _ hP hD hS (lv_sub hl [0, 1] rfl)
noncomputable def f_X3_turnFor (p2 : Int32) (a_t_sides : Nat → Int32) (p1_vertices : Int32) (p1_edges : Int32) (a_p1_firsts : Nat → Int32) (a_p1_seconds : Nat → Int32) (a_p1_signs : Nat → Int32) : Option (Int32) :=
  gd (inb p2 9) (bd (if (a_p1_signs p2.toNatClampNeg) = (nI 4294967295) then some (nI 1) else some (nI 0)) (fun (j_7 : Int32) => gd (inb p2 9) (gd (inb (a_p1_firsts p2.toNatClampNeg) 6) (gd (inb p2 9) (gd (inb (a_p1_seconds p2.toNatClampNeg) 6) (some (((a_t_sides (a_p1_firsts p2.toNatClampNeg).toNatClampNeg) ^^^ (a_t_sides (a_p1_seconds p2.toNatClampNeg).toNatClampNeg)) ^^^ j_7)))))))
theorem yq_X3_turnFor : yq yX3_turnFor 2 := by unfold yq; decide +kernel
set_option maxHeartbeats 4000000 in
set_option maxRecDepth 100000 in
theorem c_X3_turnFor (g : GG) (l : Launch) (h_t : Nat) (h_t_groups : Nat) (h_t_sides : Nat) (h_p1 : Nat) (h_p1_firsts : Nat) (h_p1_seconds : Nat) (h_p1_signs : Nat) (p2 : Int32) (a_t_sides : Nat → Int32) (p1_vertices : Int32) (p1_edges : Int32) (a_p1_firsts : Nat → Int32) (a_p1_seconds : Nat → Int32) (a_p1_signs : Nat → Int32) {R : Int32} (hM : f_X3_turnFor p2 a_t_sides p1_vertices p1_edges a_p1_firsts a_p1_seconds a_p1_signs = some R) : CT g l yX3_turnFor cX3_turnFor 4 (some .int) 0 0 [.ref h_t, .ref h_p1, .int p2] [ob h_t 3 [.ref h_t_groups, .ref h_t_sides], aI g h_t_sides 6 a_t_sides, ob h_p1 2 [.int p1_vertices, .int p1_edges, .ref h_p1_firsts, .ref h_p1_seconds, .ref h_p1_signs], aI g h_p1_firsts 9 a_p1_firsts, aI g h_p1_seconds 9 a_p1_seconds, aI g h_p1_signs 9 a_p1_signs] [ob h_t 3 [.ref h_t_groups, .ref h_t_sides], aI g h_t_sides 6 a_t_sides, ob h_p1 2 [.int p1_vertices, .int p1_edges, .ref h_p1_firsts, .ref h_p1_seconds, .ref h_p1_signs], aI g h_p1_firsts 9 a_p1_firsts, aI g h_p1_seconds 9 a_p1_seconds, aI g h_p1_signs 9 a_p1_signs] (some (.int R)) := by
  refine ct_i (by decide +kernel) (Nat.le_of_ble_eq_true rfl) ?_
  intro p e s m args below meth c Q A ls cx hP hD hA hl hfin
  obtain ⟨hx, hb, hml, hown, hts, hK⟩ := id cx
  have hl : lv_has ls 4 [(0, .ref h_t), (1, .ref h_p1), (2, .int p2)] := hl
  have hS : va_S A s.heap s.heap [] := va_S.rf
  refine lv_aload_n hx hb dX3_turnFor_0 rfl (lv_at hl 1 rfl) ?_
  refine w_getN cx hP 2 2 4 rfl rfl (by decide) n_86 rfl rfl dX3_turnFor_1 ?_
  refine lv_iload_n hx hb dX3_turnFor_4 rfl (lv_at hl 2 rfl) ?_
  obtain ⟨g_5, hM⟩ := gd_some hM
  refine w_iald cx hP 5 rfl g_5 dX3_turnFor_5 ?_
  refine lv_iconst (v := (nI 4294967295)) hx hb dX3_turnFor_6 (by decide) ?_
  obtain ⟨j_7, hB, hM⟩ := bd_some hM
  have hJ_7 : ∀ (H : Heap) (locs : List Loc) (ls : Array Slot), va_P (gD g) vwCl [ob h_t 3 [.ref h_t_groups, .ref h_t_sides], aI g h_t_sides 6 a_t_sides, ob h_p1 2 [.int p1_vertices, .int p1_edges, .ref h_p1_firsts, .ref h_p1_seconds, .ref h_p1_signs], aI g h_p1_firsts 9 a_p1_firsts, aI g h_p1_seconds 9 a_p1_seconds, aI g h_p1_signs 9 a_p1_signs] H → va_D A [ob h_t 3 [.ref h_t_groups, .ref h_t_sides], aI g h_t_sides 6 a_t_sides, ob h_p1 2 [.int p1_vertices, .int p1_edges, .ref h_p1_firsts, .ref h_p1_seconds, .ref h_p1_signs], aI g h_p1_firsts 9 a_p1_firsts, aI g h_p1_seconds 9 a_p1_seconds, aI g h_p1_signs 9 a_p1_signs] → va_S A s.heap H locs → lv_has ls 4 [(0, .ref h_t), (1, .ref h_p1), (2, .int p2)] → W p l e (rmv 0 0) s m args below meth c H locs 0 0 Q (F0 m 15 ls [.int j_7]) := by
    intro H locs ls hP hD hS hl
    refine lv_istore_n (lv' := [(3, .int j_7), (0, .ref h_t), (1, .ref h_p1), (2, .int p2)]) hx hb dX3_turnFor_15 rfl hl (by decide) rfl (fun ls hl => ?_)
    refine lv_aload_n hx hb dX3_turnFor_16 rfl (lv_at hl 1 rfl) ?_
    refine w_get cx hP 0 3 1 rfl rfl (by decide) m_149 rfl rfl dX3_turnFor_17 ?_
    refine lv_aload_n hx hb dX3_turnFor_20 rfl (lv_at hl 2 rfl) ?_
    refine w_getN cx hP 2 2 2 rfl rfl (by decide) n_79 rfl rfl dX3_turnFor_21 ?_
    refine lv_iload_n hx hb dX3_turnFor_24 rfl (lv_at hl 3 rfl) ?_
    obtain ⟨g_25, hM⟩ := gd_some hM
    refine w_iald cx hP 3 rfl g_25 dX3_turnFor_25 ?_
    obtain ⟨g_26, hM⟩ := gd_some hM
    refine w_iald cx hP 1 rfl g_26 dX3_turnFor_26 ?_
    refine lv_aload_n hx hb dX3_turnFor_27 rfl (lv_at hl 1 rfl) ?_
    refine w_get cx hP 0 3 1 rfl rfl (by decide) m_149 rfl rfl dX3_turnFor_28 ?_
    refine lv_aload_n hx hb dX3_turnFor_31 rfl (lv_at hl 2 rfl) ?_
    refine w_getN cx hP 2 2 3 rfl rfl (by decide) n_81 rfl rfl dX3_turnFor_32 ?_
    refine lv_iload_n hx hb dX3_turnFor_35 rfl (lv_at hl 3 rfl) ?_
    obtain ⟨g_36, hM⟩ := gd_some hM
    refine w_iald cx hP 4 rfl g_36 dX3_turnFor_36 ?_
    obtain ⟨g_37, hM⟩ := gd_some hM
    refine w_iald cx hP 1 rfl g_37 dX3_turnFor_37 ?_
    refine lv_ixor hx hb dX3_turnFor_38 ?_
    refine lv_iload_n hx hb dX3_turnFor_39 rfl (lv_at hl 0 rfl) ?_
    refine lv_ixor hx hb dX3_turnFor_40 ?_
    obtain rfl := Option.some.inj hM
    exact hfin 41 _ _ _ dX3_turnFor_41 hP hD hS
  clear hM
  have hM := hB
  clear hB
  refine lv_icmp_ne (tgt := 14) hx hb dX3_turnFor_7 (by decide) (fun c_7 => ?_) (fun c_7 => ?_)
  · have hM := if_f hM c_7
    refine lv_iconst (v := (nI 0)) hx hb dX3_turnFor_14 (by decide) ?_
    obtain rfl := Option.some.inj hM
    exact hJ_7 _ _ _ hP hD hS (lv_sub hl [0, 1, 2] rfl)
  · have hM := if_t hM c_7
    refine lv_iconst (v := (nI 1)) hx hb dX3_turnFor_10 (by decide) ?_
    refine lv_goto (tgt := 15) hx hb dX3_turnFor_11 (by decide) ?_
    obtain rfl := Option.some.inj hM
    exact hJ_7 _ _ _ hP hD hS (lv_sub hl [0, 1, 2] rfl)
noncomputable def b_X3_unite_44 (x_11 : Int32) (x_23 : Int32) (q_36 : Int32) : Int32 × (Nat → Int32) × (Nat → Int32) → Option ((Int32 × (Nat → Int32) × (Nat → Int32)) ⊕ (((Nat → Int32) × (Nat → Int32)))) := fun z_44 =>
  if (nI 6) ≤ z_44.1 then some (.inr (z_44.2.1, z_44.2.2)) else gd (inb z_44.1 6) (if (z_44.2.1 z_44.1.toNatClampNeg) = x_23 then gd (inb z_44.1 6) (gd (inb z_44.1 6) (gd (inb z_44.1 6) (some (.inl (z_44.1 + (nI 1), upd z_44.2.1 z_44.1.toNatClampNeg x_11, upd z_44.2.2 z_44.1.toNatClampNeg ((z_44.2.2 z_44.1.toNatClampNeg) ^^^ q_36)))))) else some (.inl (z_44.1 + (nI 1), z_44.2.1, z_44.2.2)))
noncomputable def f_X3_unite (p2 : Int32) (a_t_groups : Nat → Int32) (a_t_sides : Nat → Int32) (p1_vertices : Int32) (p1_edges : Int32) (a_p1_firsts : Nat → Int32) (a_p1_seconds : Nat → Int32) (a_p1_signs : Nat → Int32) : Option (Int32 × (Nat → Int32) × (Nat → Int32)) :=
  gd (inb p2 9) (gd (inb (a_p1_firsts p2.toNatClampNeg) 6) (nm (a_t_groups (a_p1_firsts p2.toNatClampNeg).toNatClampNeg) (fun (x_11 : Int32) => gd (inb p2 9) (gd (inb (a_p1_seconds p2.toNatClampNeg) 6) (nm (a_t_groups (a_p1_seconds p2.toNatClampNeg).toNatClampNeg) (fun (x_23 : Int32) => if x_11 = x_23 then some ((nI 0), a_t_groups, a_t_sides) else bd (f_X3_turnFor p2 a_t_sides p1_vertices p1_edges a_p1_firsts a_p1_seconds a_p1_signs) (fun (q_36 : Int32) => bd (wh (b_X3_unite_44 x_11 x_23 q_36) ((nI 0), a_t_groups, a_t_sides)) (fun (r_44 : (Nat → Int32) × (Nat → Int32)) => some ((nI 1), r_44.1, r_44.2)))))))))
theorem yq_X3_unite : yq yX3_unite 2 := by unfold yq; decide +kernel
set_option maxHeartbeats 4000000 in
set_option maxRecDepth 100000 in
theorem c_X3_unite (g : GG) (l : Launch) (h_t : Nat) (h_t_groups : Nat) (h_t_sides : Nat) (h_p1 : Nat) (h_p1_firsts : Nat) (h_p1_seconds : Nat) (h_p1_signs : Nat) (p2 : Int32) (a_t_groups : Nat → Int32) (a_t_sides : Nat → Int32) (p1_vertices : Int32) (p1_edges : Int32) (a_p1_firsts : Nat → Int32) (a_p1_seconds : Nat → Int32) (a_p1_signs : Nat → Int32) {R : Int32 × (Nat → Int32) × (Nat → Int32)} (hM : f_X3_unite p2 a_t_groups a_t_sides p1_vertices p1_edges a_p1_firsts a_p1_seconds a_p1_signs = some R) : CT g l yX3_unite cX3_unite 7 (some .boolean) 1 23 [.ref h_t, .ref h_p1, .int p2] [ob h_t 3 [.ref h_t_groups, .ref h_t_sides], aI g h_t_groups 6 a_t_groups, aI g h_t_sides 6 a_t_sides, ob h_p1 2 [.int p1_vertices, .int p1_edges, .ref h_p1_firsts, .ref h_p1_seconds, .ref h_p1_signs], aI g h_p1_firsts 9 a_p1_firsts, aI g h_p1_seconds 9 a_p1_seconds, aI g h_p1_signs 9 a_p1_signs] [ob h_t 3 [.ref h_t_groups, .ref h_t_sides], aI g h_t_groups 6 R.2.1, aI g h_t_sides 6 R.2.2, ob h_p1 2 [.int p1_vertices, .int p1_edges, .ref h_p1_firsts, .ref h_p1_seconds, .ref h_p1_signs], aI g h_p1_firsts 9 a_p1_firsts, aI g h_p1_seconds 9 a_p1_seconds, aI g h_p1_signs 9 a_p1_signs] (some (.int R.1)) := by
  refine ct_z (by decide +kernel) (Nat.le_of_ble_eq_true rfl) ?_
  intro p e s m args below meth c Q A ls cx hP hD hA hl hfin
  obtain ⟨hx, hb, hml, hown, hts, hK⟩ := id cx
  have hl : lv_has ls 7 [(0, .ref h_t), (1, .ref h_p1), (2, .int p2)] := hl
  have hS : va_S A s.heap s.heap [] := va_S.rf
  refine lv_aload_n hx hb dX3_unite_0 rfl (lv_at hl 0 rfl) ?_
  refine w_get cx hP 0 3 0 rfl rfl (by decide) m_148 rfl rfl dX3_unite_1 ?_
  refine lv_aload_n hx hb dX3_unite_4 rfl (lv_at hl 1 rfl) ?_
  refine w_getN cx hP 3 2 2 rfl rfl (by decide) n_79 rfl rfl dX3_unite_5 ?_
  refine lv_iload_n hx hb dX3_unite_8 rfl (lv_at hl 2 rfl) ?_
  obtain ⟨g_9, hM⟩ := gd_some hM
  refine w_iald cx hP 4 rfl g_9 dX3_unite_9 ?_
  obtain ⟨g_10, hM⟩ := gd_some hM
  refine w_iald cx hP 1 rfl g_10 dX3_unite_10 ?_
  refine lv_topi (fun x_11 ex_11 => ?_)
  have hM := nm_some hM x_11 ex_11
  refine lv_istore_n (lv' := [(3, .int x_11), (0, .ref h_t), (1, .ref h_p1), (2, .int p2)]) hx hb dX3_unite_11 rfl hl (by decide) rfl (fun ls hl => ?_)
  refine lv_aload_n hx hb dX3_unite_12 rfl (lv_at hl 1 rfl) ?_
  refine w_get cx hP 0 3 0 rfl rfl (by decide) m_148 rfl rfl dX3_unite_13 ?_
  refine lv_aload_n hx hb dX3_unite_16 rfl (lv_at hl 2 rfl) ?_
  refine w_getN cx hP 3 2 3 rfl rfl (by decide) n_81 rfl rfl dX3_unite_17 ?_
  refine lv_iload_n hx hb dX3_unite_20 rfl (lv_at hl 3 rfl) ?_
  obtain ⟨g_21, hM⟩ := gd_some hM
  refine w_iald cx hP 5 rfl g_21 dX3_unite_21 ?_
  obtain ⟨g_22, hM⟩ := gd_some hM
  refine w_iald cx hP 1 rfl g_22 dX3_unite_22 ?_
  refine lv_topi (fun x_23 ex_23 => ?_)
  have hM := nm_some hM x_23 ex_23
  refine lv_istore (lv' := [(4, .int x_23), (3, .int x_11), (0, .ref h_t), (1, .ref h_p1), (2, .int p2)]) hx hb dX3_unite_23 hl (by decide) rfl (fun ls hl => ?_)
  refine lv_iload_n hx hb dX3_unite_25 rfl (lv_at hl 1 rfl) ?_
  refine lv_iload hx hb dX3_unite_26 (lv_at hl 0 rfl) ?_
  refine lv_icmp_ne (tgt := 33) hx hb dX3_unite_28 (by decide) (fun c_28 => ?_) (fun c_28 => ?_)
  · have hM := if_f hM c_28
    refine lv_aload_n hx hb dX3_unite_33 rfl (lv_at hl 2 rfl) ?_
    refine lv_aload_n hx hb dX3_unite_34 rfl (lv_at hl 3 rfl) ?_
    refine lv_iload_n hx hb dX3_unite_35 rfl (lv_at hl 4 rfl) ?_
    obtain ⟨q_36, hc_36, hM⟩ := bd_some hM
    refine w_callV cx hP hD hS hA (c_X3_turnFor g l h_t h_t_groups h_t_sides h_p1 h_p1_firsts h_p1_seconds h_p1_signs p2 a_t_sides p1_vertices p1_edges a_p1_firsts a_p1_seconds a_p1_signs hc_36) [0, 2, 3, 4, 5, 6] rfl (by decide) rfl [ob h_t 3 [.ref h_t_groups, .ref h_t_sides], aI g h_t_groups 6 a_t_groups, aI g h_t_sides 6 a_t_sides, ob h_p1 2 [.int p1_vertices, .int p1_edges, .ref h_p1_firsts, .ref h_p1_seconds, .ref h_p1_signs], aI g h_p1_firsts 9 a_p1_firsts, aI g h_p1_seconds 9 a_p1_seconds, aI g h_p1_signs 9 a_p1_signs] rfl 0 3 rfl rfl yq_X3_turnFor rfl m_419 m_421 m_8 m_46 m_422 ⟨Nat.le_of_ble_eq_true rfl, Nat.le_of_ble_eq_true rfl⟩ rfl rfl hl.1 (Nat.le_of_ble_eq_true rfl) dX3_unite_36 ⟨Nat.le_refl 0, Nat.le_refl 0⟩ rfl (fun H locs hP hD hS => ?_)
    refine lv_istore (lv' := [(5, .int q_36), (4, .int x_23), (3, .int x_11), (0, .ref h_t), (1, .ref h_p1), (2, .int p2)]) hx hb dX3_unite_39 hl (by decide) rfl (fun ls hl => ?_)
    refine lv_iconst (v := (nI 0)) hx hb dX3_unite_41 (by decide) ?_
    refine lv_istore (lv' := [(6, .int (nI 0)), (5, .int q_36), (4, .int x_23), (3, .int x_11), (0, .ref h_t), (1, .ref h_p1), (2, .int p2)]) hx hb dX3_unite_42 hl (by decide) rfl (fun ls hl => ?_)
    obtain ⟨r_44, hw, hM⟩ := bd_some hM
    obtain ⟨n, hn⟩ := wh_some hw
    clear hw
    have hE_44_0 : ∀ (H : Heap) (locs : List Loc) (ls : Array Slot), va_P (gD g) vwCl [ob h_t 3 [.ref h_t_groups, .ref h_t_sides], aI g h_t_groups 6 r_44.1, aI g h_t_sides 6 r_44.2, ob h_p1 2 [.int p1_vertices, .int p1_edges, .ref h_p1_firsts, .ref h_p1_seconds, .ref h_p1_signs], aI g h_p1_firsts 9 a_p1_firsts, aI g h_p1_seconds 9 a_p1_seconds, aI g h_p1_signs 9 a_p1_signs] H → va_D A [ob h_t 3 [.ref h_t_groups, .ref h_t_sides], aI g h_t_groups 6 r_44.1, aI g h_t_sides 6 r_44.2, ob h_p1 2 [.int p1_vertices, .int p1_edges, .ref h_p1_firsts, .ref h_p1_seconds, .ref h_p1_signs], aI g h_p1_firsts 9 a_p1_firsts, aI g h_p1_seconds 9 a_p1_seconds, aI g h_p1_signs 9 a_p1_signs] → va_S A s.heap H locs → lv_has ls 7 [] → W p l e (rmv 1 23) s m args below meth c H locs 0 0 Q (F0 m 89 ls []) := by
      intro H locs ls hP hD hS hl
      refine lv_iconst (v := (nI 1)) hx hb dX3_unite_89 (by decide) ?_
      have hz : bq (nI 1) = true := by decide
      obtain rfl := Option.some.inj hM
      exact hfin 90 _ _ _ dX3_unite_90 hz hP hD hS
    clear hM
    have hL_44 : ∀ (n : Nat) (z_44 : Int32 × (Nat → Int32) × (Nat → Int32)), it (b_X3_unite_44 x_11 x_23 q_36) n z_44 = some r_44 → ∀ (H : Heap) (locs : List Loc) (ls : Array Slot), va_P (gD g) vwCl [ob h_t 3 [.ref h_t_groups, .ref h_t_sides], aI g h_t_groups 6 z_44.2.1, aI g h_t_sides 6 z_44.2.2, ob h_p1 2 [.int p1_vertices, .int p1_edges, .ref h_p1_firsts, .ref h_p1_seconds, .ref h_p1_signs], aI g h_p1_firsts 9 a_p1_firsts, aI g h_p1_seconds 9 a_p1_seconds, aI g h_p1_signs 9 a_p1_signs] H → va_D A [ob h_t 3 [.ref h_t_groups, .ref h_t_sides], aI g h_t_groups 6 z_44.2.1, aI g h_t_sides 6 z_44.2.2, ob h_p1 2 [.int p1_vertices, .int p1_edges, .ref h_p1_firsts, .ref h_p1_seconds, .ref h_p1_signs], aI g h_p1_firsts 9 a_p1_firsts, aI g h_p1_seconds 9 a_p1_seconds, aI g h_p1_signs 9 a_p1_signs] → va_S A s.heap H locs → lv_has ls 7 [(6, .int z_44.1), (5, .int q_36), (4, .int x_23), (3, .int x_11), (0, .ref h_t)] → W p l e (rmv 1 23) s m args below meth c H locs 0 0 Q (F0 m 44 ls []) := by
      intro n
      induction n with
      | zero => intro z_44 hn; exact (it_zero hn).elim
      | succ n ih =>
        intro z_44 hn H locs ls hP hD hS hl
        obtain ⟨x, hM, hX⟩ := it_succ hn
        clear hn
        refine lv_iload hx hb dX3_unite_44 (lv_at hl 0 rfl) ?_
        refine lv_bipush (v := (nI 6)) hx hb dX3_unite_46 (by decide) ?_
        refine lv_icmp_ge (tgt := 89) hx hb dX3_unite_48 (by decide) (fun c_48 => ?_) (fun c_48 => ?_)
        · have hM := if_t hM c_48
          obtain rfl := Option.some.inj hM
          obtain rfl : _ = r_44 := hX
          exact hE_44_0 _ _ _ hP hD hS (lv_sub hl [] rfl)
        · have hM := if_f hM c_48
          refine lv_aload_n hx hb dX3_unite_51 rfl (lv_at hl 4 rfl) ?_
          refine w_get cx hP 0 3 0 rfl rfl (by decide) m_148 rfl rfl dX3_unite_52 ?_
          refine lv_iload hx hb dX3_unite_55 (lv_at hl 0 rfl) ?_
          obtain ⟨g_57, hM⟩ := gd_some hM
          refine w_iald cx hP 1 rfl g_57 dX3_unite_57 ?_
          refine lv_iload hx hb dX3_unite_58 (lv_at hl 2 rfl) ?_
          refine lv_icmp_ne (tgt := 83) hx hb dX3_unite_60 (by decide) (fun c_60 => ?_) (fun c_60 => ?_)
          · have hM := if_f hM c_60
            refine lv_iinc (v := z_44.1 + (nI 1)) (lv' := [(6, .int (z_44.1 + (nI 1))), (5, .int q_36), (4, .int x_23), (3, .int x_11), (0, .ref h_t)]) hx hb dX3_unite_83 hl (k := 0) rfl (congrArg (fun q => z_44.1 + q) (show Int32.ofInt (1) = (nI 1) by decide)) (by decide) rfl (fun ls hl => ?_)
            refine lv_goto (tgt := 44) hx hb dX3_unite_86 (by decide) ?_
            obtain rfl := Option.some.inj hM
            exact ih _ hX _ _ _ hP hD hS (lv_sub hl [0, 1, 2, 3, 4] rfl)
          · have hM := if_t hM c_60
            refine lv_aload_n hx hb dX3_unite_63 rfl (lv_at hl 4 rfl) ?_
            refine w_get cx hP 0 3 0 rfl rfl (by decide) m_148 rfl rfl dX3_unite_64 ?_
            refine lv_iload hx hb dX3_unite_67 (lv_at hl 0 rfl) ?_
            refine lv_iload_n hx hb dX3_unite_69 rfl (lv_at hl 3 rfl) ?_
            obtain ⟨g_70, hM⟩ := gd_some hM
            refine w_iast cx hP hD hS 1 rfl g_70 dX3_unite_70 [ob h_t 3 [.ref h_t_groups, .ref h_t_sides], aI g h_t_groups 6 (upd z_44.2.1 z_44.1.toNatClampNeg x_11), aI g h_t_sides 6 z_44.2.2, ob h_p1 2 [.int p1_vertices, .int p1_edges, .ref h_p1_firsts, .ref h_p1_seconds, .ref h_p1_signs], aI g h_p1_firsts 9 a_p1_firsts, aI g h_p1_seconds 9 a_p1_seconds, aI g h_p1_signs 9 a_p1_signs] rfl (fun H locs hP hD hS => ?_)
            refine lv_aload_n hx hb dX3_unite_71 rfl (lv_at hl 4 rfl) ?_
            refine w_get cx hP 0 3 1 rfl rfl (by decide) m_149 rfl rfl dX3_unite_72 ?_
            refine lv_iload hx hb dX3_unite_75 (lv_at hl 0 rfl) ?_
            refine lv_dup2_11 hx hb dX3_unite_77 rfl rfl ?_
            obtain ⟨g_78, hM⟩ := gd_some hM
            refine w_iald cx hP 2 rfl g_78 dX3_unite_78 ?_
            refine lv_iload hx hb dX3_unite_79 (lv_at hl 1 rfl) ?_
            refine lv_ixor hx hb dX3_unite_81 ?_
            obtain ⟨g_82, hM⟩ := gd_some hM
            refine w_iast cx hP hD hS 2 rfl g_82 dX3_unite_82 [ob h_t 3 [.ref h_t_groups, .ref h_t_sides], aI g h_t_groups 6 (upd z_44.2.1 z_44.1.toNatClampNeg x_11), aI g h_t_sides 6 (upd z_44.2.2 z_44.1.toNatClampNeg ((z_44.2.2 z_44.1.toNatClampNeg) ^^^ q_36)), ob h_p1 2 [.int p1_vertices, .int p1_edges, .ref h_p1_firsts, .ref h_p1_seconds, .ref h_p1_signs], aI g h_p1_firsts 9 a_p1_firsts, aI g h_p1_seconds 9 a_p1_seconds, aI g h_p1_signs 9 a_p1_signs] rfl (fun H locs hP hD hS => ?_)
            refine lv_iinc (v := z_44.1 + (nI 1)) (lv' := [(6, .int (z_44.1 + (nI 1))), (5, .int q_36), (4, .int x_23), (3, .int x_11), (0, .ref h_t)]) hx hb dX3_unite_83 hl (k := 0) rfl (congrArg (fun q => z_44.1 + q) (show Int32.ofInt (1) = (nI 1) by decide)) (by decide) rfl (fun ls hl => ?_)
            refine lv_goto (tgt := 44) hx hb dX3_unite_86 (by decide) ?_
            obtain rfl := Option.some.inj hM
            exact ih _ hX _ _ _ hP hD hS (lv_sub hl [0, 1, 2, 3, 4] rfl)
    exact hL_44 n _ hn _ _ _ hP hD hS (lv_sub hl [0, 1, 2, 3, 4] rfl)
  · have hM := if_t hM c_28
    refine lv_iconst (v := (nI 0)) hx hb dX3_unite_31 (by decide) ?_
    have hz : bq (nI 0) = true := by decide
    obtain rfl := Option.some.inj hM
    exact hfin 32 _ _ _ dX3_unite_32 hz hP hD hS
noncomputable def b_X3_countGroups_11 (p1_vertices : Int32) (p1_edges : Int32) (a_p1_firsts : Nat → Int32) (a_p1_seconds : Nat → Int32) (a_p1_signs : Nat → Int32) : Int32 × Int32 × (Nat → Int32) × (Nat → Int32) → Option ((Int32 × Int32 × (Nat → Int32) × (Nat → Int32)) ⊕ ((Int32 × (Nat → Int32) × (Nat → Int32)))) := fun z_11 =>
  if p1_edges ≤ z_11.1 then some (.inr (z_11.2.1, z_11.2.2.1, z_11.2.2.2)) else bd (f_X3_unite z_11.1 z_11.2.2.1 z_11.2.2.2 p1_vertices p1_edges a_p1_firsts a_p1_seconds a_p1_signs) (fun (q_22 : Int32 × (Nat → Int32) × (Nat → Int32)) => if q_22.1 = 0 then some (.inl (z_11.1 + (nI 1), z_11.2.1, q_22.2.1, q_22.2.2)) else nm (z_11.2.1 + (nI 4294967295)) (fun (x_28 : Int32) => some (.inl (z_11.1 + (nI 1), x_28, q_22.2.1, q_22.2.2))))
noncomputable def f_X3_countGroups (a_t_groups : Nat → Int32) (a_t_sides : Nat → Int32) (p1_vertices : Int32) (p1_edges : Int32) (a_p1_firsts : Nat → Int32) (a_p1_seconds : Nat → Int32) (a_p1_signs : Nat → Int32) : Option (Int32 × (Nat → Int32) × (Nat → Int32)) :=
  bd (f_X3_separate a_t_groups a_t_sides) (fun (q_1 : (Nat → Int32) × (Nat → Int32)) => bd (wh (b_X3_countGroups_11 p1_vertices p1_edges a_p1_firsts a_p1_seconds a_p1_signs) ((nI 0), p1_vertices, q_1.1, q_1.2)) (fun (r_11 : Int32 × (Nat → Int32) × (Nat → Int32)) => some (r_11.1, r_11.2.1, r_11.2.2)))
theorem yq_X3_countGroups : yq yX3_countGroups 1 := by unfold yq; decide +kernel
set_option maxHeartbeats 4000000 in
set_option maxRecDepth 100000 in
theorem c_X3_countGroups (g : GG) (l : Launch) (h_t : Nat) (h_t_groups : Nat) (h_t_sides : Nat) (h_p1 : Nat) (h_p1_firsts : Nat) (h_p1_seconds : Nat) (h_p1_signs : Nat) (a_t_groups : Nat → Int32) (a_t_sides : Nat → Int32) (p1_vertices : Int32) (p1_edges : Int32) (a_p1_firsts : Nat → Int32) (a_p1_seconds : Nat → Int32) (a_p1_signs : Nat → Int32) {R : Int32 × (Nat → Int32) × (Nat → Int32)} (hM : f_X3_countGroups a_t_groups a_t_sides p1_vertices p1_edges a_p1_firsts a_p1_seconds a_p1_signs = some R) : CT g l yX3_countGroups cX3_countGroups 4 (some .int) 2 49 [.ref h_t, .ref h_p1] [ob h_t 3 [.ref h_t_groups, .ref h_t_sides], aI g h_t_groups 6 a_t_groups, aI g h_t_sides 6 a_t_sides, ob h_p1 2 [.int p1_vertices, .int p1_edges, .ref h_p1_firsts, .ref h_p1_seconds, .ref h_p1_signs], aI g h_p1_firsts 9 a_p1_firsts, aI g h_p1_seconds 9 a_p1_seconds, aI g h_p1_signs 9 a_p1_signs] [ob h_t 3 [.ref h_t_groups, .ref h_t_sides], aI g h_t_groups 6 R.2.1, aI g h_t_sides 6 R.2.2, ob h_p1 2 [.int p1_vertices, .int p1_edges, .ref h_p1_firsts, .ref h_p1_seconds, .ref h_p1_signs], aI g h_p1_firsts 9 a_p1_firsts, aI g h_p1_seconds 9 a_p1_seconds, aI g h_p1_signs 9 a_p1_signs] (some (.int R.1)) := by
  refine ct_i (by decide +kernel) (Nat.le_of_ble_eq_true rfl) ?_
  intro p e s m args below meth c Q A ls cx hP hD hA hl hfin
  obtain ⟨hx, hb, hml, hown, hts, hK⟩ := id cx
  have hl : lv_has ls 4 [(0, .ref h_t), (1, .ref h_p1)] := hl
  have hS : va_S A s.heap s.heap [] := va_S.rf
  refine lv_aload_n hx hb dX3_countGroups_0 rfl (lv_at hl 0 rfl) ?_
  obtain ⟨q_1, hc_1, hM⟩ := bd_some hM
  refine w_callV cx hP hD hS hA (c_X3_separate g l h_t h_t_groups h_t_sides a_t_groups a_t_sides hc_1) [0, 1, 2] rfl (by decide) rfl [ob h_t 3 [.ref h_t_groups, .ref h_t_sides], aI g h_t_groups 6 q_1.1, aI g h_t_sides 6 q_1.2, ob h_p1 2 [.int p1_vertices, .int p1_edges, .ref h_p1_firsts, .ref h_p1_seconds, .ref h_p1_signs], aI g h_p1_firsts 9 a_p1_firsts, aI g h_p1_seconds 9 a_p1_seconds, aI g h_p1_signs 9 a_p1_signs] rfl 0 3 rfl rfl yq_X3_separate rfl m_411 m_413 m_6 m_46 m_414 ⟨Nat.le_of_ble_eq_true rfl, Nat.le_of_ble_eq_true rfl⟩ rfl rfl hl.1 (Nat.le_of_ble_eq_true rfl) dX3_countGroups_1 ⟨Nat.le_refl 0, Nat.le_refl 0⟩ rfl (fun H locs hP hD hS => ?_)
  refine lv_aload_n hx hb dX3_countGroups_4 rfl (lv_at hl 1 rfl) ?_
  refine w_getN cx hP 3 2 0 rfl rfl (by decide) n_70 rfl rfl dX3_countGroups_5 ?_
  refine lv_istore_n (lv' := [(2, .int p1_vertices), (0, .ref h_t), (1, .ref h_p1)]) hx hb dX3_countGroups_8 rfl hl (by decide) rfl (fun ls hl => ?_)
  refine lv_iconst (v := (nI 0)) hx hb dX3_countGroups_9 (by decide) ?_
  refine lv_istore_n (lv' := [(3, .int (nI 0)), (2, .int p1_vertices), (0, .ref h_t), (1, .ref h_p1)]) hx hb dX3_countGroups_10 rfl hl (by decide) rfl (fun ls hl => ?_)
  obtain ⟨r_11, hw, hM⟩ := bd_some hM
  obtain ⟨n, hn⟩ := wh_some hw
  clear hw
  have hE_11_0 : ∀ (H : Heap) (locs : List Loc) (ls : Array Slot), va_P (gD g) vwCl [ob h_t 3 [.ref h_t_groups, .ref h_t_sides], aI g h_t_groups 6 r_11.2.1, aI g h_t_sides 6 r_11.2.2, ob h_p1 2 [.int p1_vertices, .int p1_edges, .ref h_p1_firsts, .ref h_p1_seconds, .ref h_p1_signs], aI g h_p1_firsts 9 a_p1_firsts, aI g h_p1_seconds 9 a_p1_seconds, aI g h_p1_signs 9 a_p1_signs] H → va_D A [ob h_t 3 [.ref h_t_groups, .ref h_t_sides], aI g h_t_groups 6 r_11.2.1, aI g h_t_sides 6 r_11.2.2, ob h_p1 2 [.int p1_vertices, .int p1_edges, .ref h_p1_firsts, .ref h_p1_seconds, .ref h_p1_signs], aI g h_p1_firsts 9 a_p1_firsts, aI g h_p1_seconds 9 a_p1_seconds, aI g h_p1_signs 9 a_p1_signs] → va_S A s.heap H locs → lv_has ls 4 [(2, .int r_11.1)] → W p l e (rmv 2 49) s m args below meth c H locs 0 0 Q (F0 m 37 ls []) := by
    intro H locs ls hP hD hS hl
    refine lv_iload_n hx hb dX3_countGroups_37 rfl (lv_at hl 0 rfl) ?_
    obtain rfl := Option.some.inj hM
    exact hfin 38 _ _ _ dX3_countGroups_38 hP hD hS
  clear hM
  have hL_11 : ∀ (n : Nat) (z_11 : Int32 × Int32 × (Nat → Int32) × (Nat → Int32)), it (b_X3_countGroups_11 p1_vertices p1_edges a_p1_firsts a_p1_seconds a_p1_signs) n z_11 = some r_11 → ∀ (H : Heap) (locs : List Loc) (ls : Array Slot), va_P (gD g) vwCl [ob h_t 3 [.ref h_t_groups, .ref h_t_sides], aI g h_t_groups 6 z_11.2.2.1, aI g h_t_sides 6 z_11.2.2.2, ob h_p1 2 [.int p1_vertices, .int p1_edges, .ref h_p1_firsts, .ref h_p1_seconds, .ref h_p1_signs], aI g h_p1_firsts 9 a_p1_firsts, aI g h_p1_seconds 9 a_p1_seconds, aI g h_p1_signs 9 a_p1_signs] H → va_D A [ob h_t 3 [.ref h_t_groups, .ref h_t_sides], aI g h_t_groups 6 z_11.2.2.1, aI g h_t_sides 6 z_11.2.2.2, ob h_p1 2 [.int p1_vertices, .int p1_edges, .ref h_p1_firsts, .ref h_p1_seconds, .ref h_p1_signs], aI g h_p1_firsts 9 a_p1_firsts, aI g h_p1_seconds 9 a_p1_seconds, aI g h_p1_signs 9 a_p1_signs] → va_S A s.heap H locs → lv_has ls 4 [(3, .int z_11.1), (2, .int z_11.2.1), (0, .ref h_t), (1, .ref h_p1)] → W p l e (rmv 2 49) s m args below meth c H locs 0 0 Q (F0 m 11 ls []) := by
    intro n
    induction n with
    | zero => intro z_11 hn; exact (it_zero hn).elim
    | succ n ih =>
      intro z_11 hn H locs ls hP hD hS hl
      obtain ⟨x, hM, hX⟩ := it_succ hn
      clear hn
      refine lv_iload_n hx hb dX3_countGroups_11 rfl (lv_at hl 0 rfl) ?_
      refine lv_aload_n hx hb dX3_countGroups_12 rfl (lv_at hl 3 rfl) ?_
      refine w_getN cx hP 3 2 1 rfl rfl (by decide) n_74 rfl rfl dX3_countGroups_13 ?_
      refine lv_icmp_ge (tgt := 37) hx hb dX3_countGroups_16 (by decide) (fun c_16 => ?_) (fun c_16 => ?_)
      · have hM := if_t hM c_16
        obtain rfl := Option.some.inj hM
        obtain rfl : _ = r_11 := hX
        exact hE_11_0 _ _ _ hP hD hS (lv_sub hl [1] rfl)
      · have hM := if_f hM c_16
        refine lv_aload_n hx hb dX3_countGroups_19 rfl (lv_at hl 2 rfl) ?_
        refine lv_aload_n hx hb dX3_countGroups_20 rfl (lv_at hl 3 rfl) ?_
        refine lv_iload_n hx hb dX3_countGroups_21 rfl (lv_at hl 0 rfl) ?_
        obtain ⟨q_22, hc_22, hM⟩ := bd_some hM
        refine w_callV cx hP hD hS hA (c_X3_unite g l h_t h_t_groups h_t_sides h_p1 h_p1_firsts h_p1_seconds h_p1_signs z_11.1 z_11.2.2.1 z_11.2.2.2 p1_vertices p1_edges a_p1_firsts a_p1_seconds a_p1_signs hc_22) [0, 1, 2, 3, 4, 5, 6] rfl (by decide) rfl [ob h_t 3 [.ref h_t_groups, .ref h_t_sides], aI g h_t_groups 6 q_22.2.1, aI g h_t_sides 6 q_22.2.2, ob h_p1 2 [.int p1_vertices, .int p1_edges, .ref h_p1_firsts, .ref h_p1_seconds, .ref h_p1_signs], aI g h_p1_firsts 9 a_p1_firsts, aI g h_p1_seconds 9 a_p1_seconds, aI g h_p1_signs 9 a_p1_signs] rfl 0 3 rfl rfl yq_X3_unite rfl m_415 m_417 m_7 m_46 m_418 ⟨Nat.le_of_ble_eq_true rfl, Nat.le_of_ble_eq_true rfl⟩ rfl rfl hl.1 (Nat.le_of_ble_eq_true rfl) dX3_countGroups_22 ⟨Nat.le_refl 0, Nat.le_refl 0⟩ rfl (fun H locs hP hD hS => ?_)
        refine lv_if_eq (tgt := 31) hx hb dX3_countGroups_25 (by decide) (fun c_25 => ?_) (fun c_25 => ?_)
        · have hM := if_t hM c_25
          refine lv_iinc (v := z_11.1 + (nI 1)) (lv' := [(3, .int (z_11.1 + (nI 1))), (2, .int z_11.2.1), (0, .ref h_t), (1, .ref h_p1)]) hx hb dX3_countGroups_31 hl (k := 0) rfl (congrArg (fun q => z_11.1 + q) (show Int32.ofInt (1) = (nI 1) by decide)) (by decide) rfl (fun ls hl => ?_)
          refine lv_goto (tgt := 11) hx hb dX3_countGroups_34 (by decide) ?_
          obtain rfl := Option.some.inj hM
          exact ih _ hX _ _ _ hP hD hS (lv_sub hl [0, 1, 2, 3] rfl)
        · have hM := if_f hM c_25
          obtain ⟨x_28, ex_28⟩ : ∃ q : Int32, q = z_11.2.1 + (nI 4294967295) := ⟨_, rfl⟩
          have hM := nm_some hM x_28 ex_28
          refine lv_iinc (v := x_28) (lv' := [(2, .int x_28), (3, .int z_11.1), (0, .ref h_t), (1, .ref h_p1)]) hx hb dX3_countGroups_28 hl (k := 1) rfl ((congrArg (fun q => z_11.2.1 + q) (show Int32.ofInt (-1) = (nI 4294967295) by decide)).trans ex_28.symm) (by decide) rfl (fun ls hl => ?_)
          refine lv_iinc (v := z_11.1 + (nI 1)) (lv' := [(3, .int (z_11.1 + (nI 1))), (2, .int x_28), (0, .ref h_t), (1, .ref h_p1)]) hx hb dX3_countGroups_31 hl (k := 1) rfl (congrArg (fun q => z_11.1 + q) (show Int32.ofInt (1) = (nI 1) by decide)) (by decide) rfl (fun ls hl => ?_)
          refine lv_goto (tgt := 11) hx hb dX3_countGroups_34 (by decide) ?_
          obtain rfl := Option.some.inj hM
          exact ih _ hX _ _ _ hP hD hS (lv_sub hl [0, 1, 2, 3] rfl)
  exact hL_11 n _ hn _ _ _ hP hD hS (lv_sub hl [0, 1, 2, 3] rfl)
noncomputable def b_X3_canDivide_6 (p1_vertices : Int32) (p1_edges : Int32) (a_p1_firsts : Nat → Int32) (a_p1_seconds : Nat → Int32) (a_p1_signs : Nat → Int32) : Int32 × (Nat → Int32) × (Nat → Int32) → Option ((Int32 × (Nat → Int32) × (Nat → Int32)) ⊕ (((Nat → Int32) × (Nat → Int32)) ⊕ ((Nat → Int32) × (Nat → Int32)))) := fun z_6 =>
  if p1_edges ≤ z_6.1 then some (.inr (.inr (z_6.2.1, z_6.2.2))) else bd (f_X3_unite z_6.1 z_6.2.1 z_6.2.2 p1_vertices p1_edges a_p1_firsts a_p1_seconds a_p1_signs) (fun (q_17 : Int32 × (Nat → Int32) × (Nat → Int32)) => if q_17.1 = 0 then bd (f_X3_turnFor z_6.1 q_17.2.2 p1_vertices p1_edges a_p1_firsts a_p1_seconds a_p1_signs) (fun (q_26 : Int32) => if q_26 = 0 then some (.inl (z_6.1 + (nI 1), q_17.2.1, q_17.2.2)) else some (.inr (.inl (q_17.2.1, q_17.2.2)))) else some (.inl (z_6.1 + (nI 1), q_17.2.1, q_17.2.2)))
noncomputable def f_X3_canDivide (a_t_groups : Nat → Int32) (a_t_sides : Nat → Int32) (p1_vertices : Int32) (p1_edges : Int32) (a_p1_firsts : Nat → Int32) (a_p1_seconds : Nat → Int32) (a_p1_signs : Nat → Int32) : Option (Int32 × (Nat → Int32) × (Nat → Int32)) :=
  bd (f_X3_separate a_t_groups a_t_sides) (fun (q_1 : (Nat → Int32) × (Nat → Int32)) => bd (wh (b_X3_canDivide_6 p1_vertices p1_edges a_p1_firsts a_p1_seconds a_p1_signs) ((nI 0), q_1.1, q_1.2)) (fun (r_6 : ((Nat → Int32) × (Nat → Int32)) ⊕ ((Nat → Int32) × (Nat → Int32))) => ex2 r_6 (fun (r_6_0 : (Nat → Int32) × (Nat → Int32)) => some ((nI 0), r_6_0.1, r_6_0.2)) (fun (r_6_1 : (Nat → Int32) × (Nat → Int32)) => some ((nI 1), r_6_1.1, r_6_1.2))))
theorem yq_X3_canDivide : yq yX3_canDivide 1 := by unfold yq; decide +kernel
set_option maxHeartbeats 4000000 in
set_option maxRecDepth 100000 in
theorem c_X3_canDivide (g : GG) (l : Launch) (h_t : Nat) (h_t_groups : Nat) (h_t_sides : Nat) (h_p1 : Nat) (h_p1_firsts : Nat) (h_p1_seconds : Nat) (h_p1_signs : Nat) (a_t_groups : Nat → Int32) (a_t_sides : Nat → Int32) (p1_vertices : Int32) (p1_edges : Int32) (a_p1_firsts : Nat → Int32) (a_p1_seconds : Nat → Int32) (a_p1_signs : Nat → Int32) {R : Int32 × (Nat → Int32) × (Nat → Int32)} (hM : f_X3_canDivide a_t_groups a_t_sides p1_vertices p1_edges a_p1_firsts a_p1_seconds a_p1_signs = some R) : CT g l yX3_canDivide cX3_canDivide 3 (some .boolean) 2 49 [.ref h_t, .ref h_p1] [ob h_t 3 [.ref h_t_groups, .ref h_t_sides], aI g h_t_groups 6 a_t_groups, aI g h_t_sides 6 a_t_sides, ob h_p1 2 [.int p1_vertices, .int p1_edges, .ref h_p1_firsts, .ref h_p1_seconds, .ref h_p1_signs], aI g h_p1_firsts 9 a_p1_firsts, aI g h_p1_seconds 9 a_p1_seconds, aI g h_p1_signs 9 a_p1_signs] [ob h_t 3 [.ref h_t_groups, .ref h_t_sides], aI g h_t_groups 6 R.2.1, aI g h_t_sides 6 R.2.2, ob h_p1 2 [.int p1_vertices, .int p1_edges, .ref h_p1_firsts, .ref h_p1_seconds, .ref h_p1_signs], aI g h_p1_firsts 9 a_p1_firsts, aI g h_p1_seconds 9 a_p1_seconds, aI g h_p1_signs 9 a_p1_signs] (some (.int R.1)) := by
  refine ct_z (by decide +kernel) (Nat.le_of_ble_eq_true rfl) ?_
  intro p e s m args below meth c Q A ls cx hP hD hA hl hfin
  obtain ⟨hx, hb, hml, hown, hts, hK⟩ := id cx
  have hl : lv_has ls 3 [(0, .ref h_t), (1, .ref h_p1)] := hl
  have hS : va_S A s.heap s.heap [] := va_S.rf
  refine lv_aload_n hx hb dX3_canDivide_0 rfl (lv_at hl 0 rfl) ?_
  obtain ⟨q_1, hc_1, hM⟩ := bd_some hM
  refine w_callV cx hP hD hS hA (c_X3_separate g l h_t h_t_groups h_t_sides a_t_groups a_t_sides hc_1) [0, 1, 2] rfl (by decide) rfl [ob h_t 3 [.ref h_t_groups, .ref h_t_sides], aI g h_t_groups 6 q_1.1, aI g h_t_sides 6 q_1.2, ob h_p1 2 [.int p1_vertices, .int p1_edges, .ref h_p1_firsts, .ref h_p1_seconds, .ref h_p1_signs], aI g h_p1_firsts 9 a_p1_firsts, aI g h_p1_seconds 9 a_p1_seconds, aI g h_p1_signs 9 a_p1_signs] rfl 0 3 rfl rfl yq_X3_separate rfl m_411 m_413 m_6 m_46 m_414 ⟨Nat.le_of_ble_eq_true rfl, Nat.le_of_ble_eq_true rfl⟩ rfl rfl hl.1 (Nat.le_of_ble_eq_true rfl) dX3_canDivide_1 ⟨Nat.le_refl 0, Nat.le_refl 0⟩ rfl (fun H locs hP hD hS => ?_)
  refine lv_iconst (v := (nI 0)) hx hb dX3_canDivide_4 (by decide) ?_
  refine lv_istore_n (lv' := [(2, .int (nI 0)), (0, .ref h_t), (1, .ref h_p1)]) hx hb dX3_canDivide_5 rfl hl (by decide) rfl (fun ls hl => ?_)
  obtain ⟨r_6, hw, hM⟩ := bd_some hM
  obtain ⟨n, hn⟩ := wh_some hw
  clear hw
  have hE_6_0 : ∀ (r_6_0 : (Nat → Int32) × (Nat → Int32)), r_6 = .inl r_6_0 → ∀ (H : Heap) (locs : List Loc) (ls : Array Slot), va_P (gD g) vwCl [ob h_t 3 [.ref h_t_groups, .ref h_t_sides], aI g h_t_groups 6 r_6_0.1, aI g h_t_sides 6 r_6_0.2, ob h_p1 2 [.int p1_vertices, .int p1_edges, .ref h_p1_firsts, .ref h_p1_seconds, .ref h_p1_signs], aI g h_p1_firsts 9 a_p1_firsts, aI g h_p1_seconds 9 a_p1_seconds, aI g h_p1_signs 9 a_p1_signs] H → va_D A [ob h_t 3 [.ref h_t_groups, .ref h_t_sides], aI g h_t_groups 6 r_6_0.1, aI g h_t_sides 6 r_6_0.2, ob h_p1 2 [.int p1_vertices, .int p1_edges, .ref h_p1_firsts, .ref h_p1_seconds, .ref h_p1_signs], aI g h_p1_firsts 9 a_p1_firsts, aI g h_p1_seconds 9 a_p1_seconds, aI g h_p1_signs 9 a_p1_signs] → va_S A s.heap H locs → lv_has ls 3 [] → W p l e (rmv 2 49) s m args below meth c H locs 0 0 Q (F0 m 32 ls []) := by
    intro r_6_0 hr H locs ls hP hD hS hl
    have hM := ex2_0 hM hr
    refine lv_iconst (v := (nI 0)) hx hb dX3_canDivide_32 (by decide) ?_
    have hz : bq (nI 0) = true := by decide
    obtain rfl := Option.some.inj hM
    exact hfin 33 _ _ _ dX3_canDivide_33 hz hP hD hS
  have hE_6_1 : ∀ (r_6_1 : (Nat → Int32) × (Nat → Int32)), r_6 = .inr r_6_1 → ∀ (H : Heap) (locs : List Loc) (ls : Array Slot), va_P (gD g) vwCl [ob h_t 3 [.ref h_t_groups, .ref h_t_sides], aI g h_t_groups 6 r_6_1.1, aI g h_t_sides 6 r_6_1.2, ob h_p1 2 [.int p1_vertices, .int p1_edges, .ref h_p1_firsts, .ref h_p1_seconds, .ref h_p1_signs], aI g h_p1_firsts 9 a_p1_firsts, aI g h_p1_seconds 9 a_p1_seconds, aI g h_p1_signs 9 a_p1_signs] H → va_D A [ob h_t 3 [.ref h_t_groups, .ref h_t_sides], aI g h_t_groups 6 r_6_1.1, aI g h_t_sides 6 r_6_1.2, ob h_p1 2 [.int p1_vertices, .int p1_edges, .ref h_p1_firsts, .ref h_p1_seconds, .ref h_p1_signs], aI g h_p1_firsts 9 a_p1_firsts, aI g h_p1_seconds 9 a_p1_seconds, aI g h_p1_signs 9 a_p1_signs] → va_S A s.heap H locs → lv_has ls 3 [] → W p l e (rmv 2 49) s m args below meth c H locs 0 0 Q (F0 m 40 ls []) := by
    intro r_6_1 hr H locs ls hP hD hS hl
    have hM := ex2_1 hM hr
    refine lv_iconst (v := (nI 1)) hx hb dX3_canDivide_40 (by decide) ?_
    have hz : bq (nI 1) = true := by decide
    obtain rfl := Option.some.inj hM
    exact hfin 41 _ _ _ dX3_canDivide_41 hz hP hD hS
  clear hM
  have hL_6 : ∀ (n : Nat) (z_6 : Int32 × (Nat → Int32) × (Nat → Int32)), it (b_X3_canDivide_6 p1_vertices p1_edges a_p1_firsts a_p1_seconds a_p1_signs) n z_6 = some r_6 → ∀ (H : Heap) (locs : List Loc) (ls : Array Slot), va_P (gD g) vwCl [ob h_t 3 [.ref h_t_groups, .ref h_t_sides], aI g h_t_groups 6 z_6.2.1, aI g h_t_sides 6 z_6.2.2, ob h_p1 2 [.int p1_vertices, .int p1_edges, .ref h_p1_firsts, .ref h_p1_seconds, .ref h_p1_signs], aI g h_p1_firsts 9 a_p1_firsts, aI g h_p1_seconds 9 a_p1_seconds, aI g h_p1_signs 9 a_p1_signs] H → va_D A [ob h_t 3 [.ref h_t_groups, .ref h_t_sides], aI g h_t_groups 6 z_6.2.1, aI g h_t_sides 6 z_6.2.2, ob h_p1 2 [.int p1_vertices, .int p1_edges, .ref h_p1_firsts, .ref h_p1_seconds, .ref h_p1_signs], aI g h_p1_firsts 9 a_p1_firsts, aI g h_p1_seconds 9 a_p1_seconds, aI g h_p1_signs 9 a_p1_signs] → va_S A s.heap H locs → lv_has ls 3 [(2, .int z_6.1), (0, .ref h_t), (1, .ref h_p1)] → W p l e (rmv 2 49) s m args below meth c H locs 0 0 Q (F0 m 6 ls []) := by
    intro n
    induction n with
    | zero => intro z_6 hn; exact (it_zero hn).elim
    | succ n ih =>
      intro z_6 hn H locs ls hP hD hS hl
      obtain ⟨x, hM, hX⟩ := it_succ hn
      clear hn
      refine lv_iload_n hx hb dX3_canDivide_6 rfl (lv_at hl 0 rfl) ?_
      refine lv_aload_n hx hb dX3_canDivide_7 rfl (lv_at hl 2 rfl) ?_
      refine w_getN cx hP 3 2 1 rfl rfl (by decide) n_74 rfl rfl dX3_canDivide_8 ?_
      refine lv_icmp_ge (tgt := 40) hx hb dX3_canDivide_11 (by decide) (fun c_11 => ?_) (fun c_11 => ?_)
      · have hM := if_t hM c_11
        obtain rfl := Option.some.inj hM
        obtain rfl : _ = r_6 := hX
        exact hE_6_1 _ rfl _ _ _ hP hD hS (lv_sub hl [] rfl)
      · have hM := if_f hM c_11
        refine lv_aload_n hx hb dX3_canDivide_14 rfl (lv_at hl 1 rfl) ?_
        refine lv_aload_n hx hb dX3_canDivide_15 rfl (lv_at hl 2 rfl) ?_
        refine lv_iload_n hx hb dX3_canDivide_16 rfl (lv_at hl 0 rfl) ?_
        obtain ⟨q_17, hc_17, hM⟩ := bd_some hM
        refine w_callV cx hP hD hS hA (c_X3_unite g l h_t h_t_groups h_t_sides h_p1 h_p1_firsts h_p1_seconds h_p1_signs z_6.1 z_6.2.1 z_6.2.2 p1_vertices p1_edges a_p1_firsts a_p1_seconds a_p1_signs hc_17) [0, 1, 2, 3, 4, 5, 6] rfl (by decide) rfl [ob h_t 3 [.ref h_t_groups, .ref h_t_sides], aI g h_t_groups 6 q_17.2.1, aI g h_t_sides 6 q_17.2.2, ob h_p1 2 [.int p1_vertices, .int p1_edges, .ref h_p1_firsts, .ref h_p1_seconds, .ref h_p1_signs], aI g h_p1_firsts 9 a_p1_firsts, aI g h_p1_seconds 9 a_p1_seconds, aI g h_p1_signs 9 a_p1_signs] rfl 0 3 rfl rfl yq_X3_unite rfl m_415 m_417 m_7 m_46 m_418 ⟨Nat.le_of_ble_eq_true rfl, Nat.le_of_ble_eq_true rfl⟩ rfl rfl hl.1 (Nat.le_of_ble_eq_true rfl) dX3_canDivide_17 ⟨Nat.le_refl 0, Nat.le_refl 0⟩ rfl (fun H locs hP hD hS => ?_)
        refine lv_if_ne (tgt := 34) hx hb dX3_canDivide_20 (by decide) (fun c_20 => ?_) (fun c_20 => ?_)
        · have hM := if_f hM c_20
          refine lv_iinc (v := z_6.1 + (nI 1)) (lv' := [(2, .int (z_6.1 + (nI 1))), (0, .ref h_t), (1, .ref h_p1)]) hx hb dX3_canDivide_34 hl (k := 0) rfl (congrArg (fun q => z_6.1 + q) (show Int32.ofInt (1) = (nI 1) by decide)) (by decide) rfl (fun ls hl => ?_)
          refine lv_goto (tgt := 6) hx hb dX3_canDivide_37 (by decide) ?_
          obtain rfl := Option.some.inj hM
          exact ih _ hX _ _ _ hP hD hS (lv_sub hl [0, 1, 2] rfl)
        · have hM := if_t hM c_20
          refine lv_aload_n hx hb dX3_canDivide_23 rfl (lv_at hl 1 rfl) ?_
          refine lv_aload_n hx hb dX3_canDivide_24 rfl (lv_at hl 2 rfl) ?_
          refine lv_iload_n hx hb dX3_canDivide_25 rfl (lv_at hl 0 rfl) ?_
          obtain ⟨q_26, hc_26, hM⟩ := bd_some hM
          refine w_callV cx hP hD hS hA (c_X3_turnFor g l h_t h_t_groups h_t_sides h_p1 h_p1_firsts h_p1_seconds h_p1_signs z_6.1 q_17.2.2 p1_vertices p1_edges a_p1_firsts a_p1_seconds a_p1_signs hc_26) [0, 2, 3, 4, 5, 6] rfl (by decide) rfl [ob h_t 3 [.ref h_t_groups, .ref h_t_sides], aI g h_t_groups 6 q_17.2.1, aI g h_t_sides 6 q_17.2.2, ob h_p1 2 [.int p1_vertices, .int p1_edges, .ref h_p1_firsts, .ref h_p1_seconds, .ref h_p1_signs], aI g h_p1_firsts 9 a_p1_firsts, aI g h_p1_seconds 9 a_p1_seconds, aI g h_p1_signs 9 a_p1_signs] rfl 0 3 rfl rfl yq_X3_turnFor rfl m_419 m_421 m_8 m_46 m_422 ⟨Nat.le_of_ble_eq_true rfl, Nat.le_of_ble_eq_true rfl⟩ rfl rfl hl.1 (Nat.le_of_ble_eq_true rfl) dX3_canDivide_26 ⟨Nat.le_refl 0, Nat.le_refl 0⟩ rfl (fun H locs hP hD hS => ?_)
          refine lv_if_eq (tgt := 34) hx hb dX3_canDivide_29 (by decide) (fun c_29 => ?_) (fun c_29 => ?_)
          · have hM := if_t hM c_29
            refine lv_iinc (v := z_6.1 + (nI 1)) (lv' := [(2, .int (z_6.1 + (nI 1))), (0, .ref h_t), (1, .ref h_p1)]) hx hb dX3_canDivide_34 hl (k := 0) rfl (congrArg (fun q => z_6.1 + q) (show Int32.ofInt (1) = (nI 1) by decide)) (by decide) rfl (fun ls hl => ?_)
            refine lv_goto (tgt := 6) hx hb dX3_canDivide_37 (by decide) ?_
            obtain rfl := Option.some.inj hM
            exact ih _ hX _ _ _ hP hD hS (lv_sub hl [0, 1, 2] rfl)
          · have hM := if_f hM c_29
            obtain rfl := Option.some.inj hM
            obtain rfl : _ = r_6 := hX
            exact hE_6_0 _ rfl _ _ _ hP hD hS (lv_sub hl [] rfl)
  exact hL_6 n _ hn _ _ _ hP hD hS (lv_sub hl [0, 1, 2] rfl)
noncomputable def b_X3_isForest_6 (p2 : Int32) (p1_vertices : Int32) (p1_edges : Int32) (a_p1_firsts : Nat → Int32) (a_p1_seconds : Nat → Int32) (a_p1_signs : Nat → Int32) : Int32 × (Nat → Int32) × (Nat → Int32) → Option ((Int32 × (Nat → Int32) × (Nat → Int32)) ⊕ (((Nat → Int32) × (Nat → Int32)) ⊕ ((Nat → Int32) × (Nat → Int32)))) := fun z_6 =>
  if p1_edges ≤ z_6.1 then some (.inr (.inr (z_6.2.1, z_6.2.2))) else bd (if ((p2 >>> (z_6.1 &&& 31)) &&& (nI 1)) = (nI 1) then some (nI 1) else some (nI 0)) (fun (j_20 : Int32) => if j_20 = 0 then some (.inl (z_6.1 + (nI 1), z_6.2.1, z_6.2.2)) else bd (f_X3_unite z_6.1 z_6.2.1 z_6.2.2 p1_vertices p1_edges a_p1_firsts a_p1_seconds a_p1_signs) (fun (q_38 : Int32 × (Nat → Int32) × (Nat → Int32)) => if q_38.1 = 0 then some (.inr (.inl (q_38.2.1, q_38.2.2))) else some (.inl (z_6.1 + (nI 1), q_38.2.1, q_38.2.2))))
noncomputable def f_X3_isForest (p2 : Int32) (a_t_groups : Nat → Int32) (a_t_sides : Nat → Int32) (p1_vertices : Int32) (p1_edges : Int32) (a_p1_firsts : Nat → Int32) (a_p1_seconds : Nat → Int32) (a_p1_signs : Nat → Int32) : Option (Int32 × (Nat → Int32) × (Nat → Int32)) :=
  bd (f_X3_separate a_t_groups a_t_sides) (fun (q_1 : (Nat → Int32) × (Nat → Int32)) => bd (wh (b_X3_isForest_6 p2 p1_vertices p1_edges a_p1_firsts a_p1_seconds a_p1_signs) ((nI 0), q_1.1, q_1.2)) (fun (r_6 : ((Nat → Int32) × (Nat → Int32)) ⊕ ((Nat → Int32) × (Nat → Int32))) => ex2 r_6 (fun (r_6_0 : (Nat → Int32) × (Nat → Int32)) => some ((nI 0), r_6_0.1, r_6_0.2)) (fun (r_6_1 : (Nat → Int32) × (Nat → Int32)) => some ((nI 1), r_6_1.1, r_6_1.2))))
theorem yq_X3_isForest : yq yX3_isForest 2 := by unfold yq; decide +kernel
set_option maxHeartbeats 4000000 in
set_option maxRecDepth 100000 in
theorem c_X3_isForest (g : GG) (l : Launch) (h_t : Nat) (h_t_groups : Nat) (h_t_sides : Nat) (h_p1 : Nat) (h_p1_firsts : Nat) (h_p1_seconds : Nat) (h_p1_signs : Nat) (p2 : Int32) (a_t_groups : Nat → Int32) (a_t_sides : Nat → Int32) (p1_vertices : Int32) (p1_edges : Int32) (a_p1_firsts : Nat → Int32) (a_p1_seconds : Nat → Int32) (a_p1_signs : Nat → Int32) {R : Int32 × (Nat → Int32) × (Nat → Int32)} (hM : f_X3_isForest p2 a_t_groups a_t_sides p1_vertices p1_edges a_p1_firsts a_p1_seconds a_p1_signs = some R) : CT g l yX3_isForest cX3_isForest 5 (some .boolean) 2 49 [.ref h_t, .ref h_p1, .int p2] [ob h_t 3 [.ref h_t_groups, .ref h_t_sides], aI g h_t_groups 6 a_t_groups, aI g h_t_sides 6 a_t_sides, ob h_p1 2 [.int p1_vertices, .int p1_edges, .ref h_p1_firsts, .ref h_p1_seconds, .ref h_p1_signs], aI g h_p1_firsts 9 a_p1_firsts, aI g h_p1_seconds 9 a_p1_seconds, aI g h_p1_signs 9 a_p1_signs] [ob h_t 3 [.ref h_t_groups, .ref h_t_sides], aI g h_t_groups 6 R.2.1, aI g h_t_sides 6 R.2.2, ob h_p1 2 [.int p1_vertices, .int p1_edges, .ref h_p1_firsts, .ref h_p1_seconds, .ref h_p1_signs], aI g h_p1_firsts 9 a_p1_firsts, aI g h_p1_seconds 9 a_p1_seconds, aI g h_p1_signs 9 a_p1_signs] (some (.int R.1)) := by
  refine ct_z (by decide +kernel) (Nat.le_of_ble_eq_true rfl) ?_
  intro p e s m args below meth c Q A ls cx hP hD hA hl hfin
  obtain ⟨hx, hb, hml, hown, hts, hK⟩ := id cx
  have hl : lv_has ls 5 [(0, .ref h_t), (1, .ref h_p1), (2, .int p2)] := hl
  have hS : va_S A s.heap s.heap [] := va_S.rf
  refine lv_aload_n hx hb dX3_isForest_0 rfl (lv_at hl 0 rfl) ?_
  obtain ⟨q_1, hc_1, hM⟩ := bd_some hM
  refine w_callV cx hP hD hS hA (c_X3_separate g l h_t h_t_groups h_t_sides a_t_groups a_t_sides hc_1) [0, 1, 2] rfl (by decide) rfl [ob h_t 3 [.ref h_t_groups, .ref h_t_sides], aI g h_t_groups 6 q_1.1, aI g h_t_sides 6 q_1.2, ob h_p1 2 [.int p1_vertices, .int p1_edges, .ref h_p1_firsts, .ref h_p1_seconds, .ref h_p1_signs], aI g h_p1_firsts 9 a_p1_firsts, aI g h_p1_seconds 9 a_p1_seconds, aI g h_p1_signs 9 a_p1_signs] rfl 0 3 rfl rfl yq_X3_separate rfl m_411 m_413 m_6 m_46 m_414 ⟨Nat.le_of_ble_eq_true rfl, Nat.le_of_ble_eq_true rfl⟩ rfl rfl hl.1 (Nat.le_of_ble_eq_true rfl) dX3_isForest_1 ⟨Nat.le_refl 0, Nat.le_refl 0⟩ rfl (fun H locs hP hD hS => ?_)
  refine lv_iconst (v := (nI 0)) hx hb dX3_isForest_4 (by decide) ?_
  refine lv_istore_n (lv' := [(3, .int (nI 0)), (0, .ref h_t), (1, .ref h_p1), (2, .int p2)]) hx hb dX3_isForest_5 rfl hl (by decide) rfl (fun ls hl => ?_)
  obtain ⟨r_6, hw, hM⟩ := bd_some hM
  obtain ⟨n, hn⟩ := wh_some hw
  clear hw
  have hE_6_0 : ∀ (r_6_0 : (Nat → Int32) × (Nat → Int32)), r_6 = .inl r_6_0 → ∀ (H : Heap) (locs : List Loc) (ls : Array Slot), va_P (gD g) vwCl [ob h_t 3 [.ref h_t_groups, .ref h_t_sides], aI g h_t_groups 6 r_6_0.1, aI g h_t_sides 6 r_6_0.2, ob h_p1 2 [.int p1_vertices, .int p1_edges, .ref h_p1_firsts, .ref h_p1_seconds, .ref h_p1_signs], aI g h_p1_firsts 9 a_p1_firsts, aI g h_p1_seconds 9 a_p1_seconds, aI g h_p1_signs 9 a_p1_signs] H → va_D A [ob h_t 3 [.ref h_t_groups, .ref h_t_sides], aI g h_t_groups 6 r_6_0.1, aI g h_t_sides 6 r_6_0.2, ob h_p1 2 [.int p1_vertices, .int p1_edges, .ref h_p1_firsts, .ref h_p1_seconds, .ref h_p1_signs], aI g h_p1_firsts 9 a_p1_firsts, aI g h_p1_seconds 9 a_p1_seconds, aI g h_p1_signs 9 a_p1_signs] → va_S A s.heap H locs → lv_has ls 5 [] → W p l e (rmv 2 49) s m args below meth c H locs 0 0 Q (F0 m 44 ls []) := by
    intro r_6_0 hr H locs ls hP hD hS hl
    have hM := ex2_0 hM hr
    refine lv_iconst (v := (nI 0)) hx hb dX3_isForest_44 (by decide) ?_
    have hz : bq (nI 0) = true := by decide
    obtain rfl := Option.some.inj hM
    exact hfin 45 _ _ _ dX3_isForest_45 hz hP hD hS
  have hE_6_1 : ∀ (r_6_1 : (Nat → Int32) × (Nat → Int32)), r_6 = .inr r_6_1 → ∀ (H : Heap) (locs : List Loc) (ls : Array Slot), va_P (gD g) vwCl [ob h_t 3 [.ref h_t_groups, .ref h_t_sides], aI g h_t_groups 6 r_6_1.1, aI g h_t_sides 6 r_6_1.2, ob h_p1 2 [.int p1_vertices, .int p1_edges, .ref h_p1_firsts, .ref h_p1_seconds, .ref h_p1_signs], aI g h_p1_firsts 9 a_p1_firsts, aI g h_p1_seconds 9 a_p1_seconds, aI g h_p1_signs 9 a_p1_signs] H → va_D A [ob h_t 3 [.ref h_t_groups, .ref h_t_sides], aI g h_t_groups 6 r_6_1.1, aI g h_t_sides 6 r_6_1.2, ob h_p1 2 [.int p1_vertices, .int p1_edges, .ref h_p1_firsts, .ref h_p1_seconds, .ref h_p1_signs], aI g h_p1_firsts 9 a_p1_firsts, aI g h_p1_seconds 9 a_p1_seconds, aI g h_p1_signs 9 a_p1_signs] → va_S A s.heap H locs → lv_has ls 5 [] → W p l e (rmv 2 49) s m args below meth c H locs 0 0 Q (F0 m 52 ls []) := by
    intro r_6_1 hr H locs ls hP hD hS hl
    have hM := ex2_1 hM hr
    refine lv_iconst (v := (nI 1)) hx hb dX3_isForest_52 (by decide) ?_
    have hz : bq (nI 1) = true := by decide
    obtain rfl := Option.some.inj hM
    exact hfin 53 _ _ _ dX3_isForest_53 hz hP hD hS
  clear hM
  have hL_6 : ∀ (n : Nat) (z_6 : Int32 × (Nat → Int32) × (Nat → Int32)), it (b_X3_isForest_6 p2 p1_vertices p1_edges a_p1_firsts a_p1_seconds a_p1_signs) n z_6 = some r_6 → ∀ (H : Heap) (locs : List Loc) (ls : Array Slot), va_P (gD g) vwCl [ob h_t 3 [.ref h_t_groups, .ref h_t_sides], aI g h_t_groups 6 z_6.2.1, aI g h_t_sides 6 z_6.2.2, ob h_p1 2 [.int p1_vertices, .int p1_edges, .ref h_p1_firsts, .ref h_p1_seconds, .ref h_p1_signs], aI g h_p1_firsts 9 a_p1_firsts, aI g h_p1_seconds 9 a_p1_seconds, aI g h_p1_signs 9 a_p1_signs] H → va_D A [ob h_t 3 [.ref h_t_groups, .ref h_t_sides], aI g h_t_groups 6 z_6.2.1, aI g h_t_sides 6 z_6.2.2, ob h_p1 2 [.int p1_vertices, .int p1_edges, .ref h_p1_firsts, .ref h_p1_seconds, .ref h_p1_signs], aI g h_p1_firsts 9 a_p1_firsts, aI g h_p1_seconds 9 a_p1_seconds, aI g h_p1_signs 9 a_p1_signs] → va_S A s.heap H locs → lv_has ls 5 [(3, .int z_6.1), (0, .ref h_t), (1, .ref h_p1), (2, .int p2)] → W p l e (rmv 2 49) s m args below meth c H locs 0 0 Q (F0 m 6 ls []) := by
    intro n
    induction n with
    | zero => intro z_6 hn; exact (it_zero hn).elim
    | succ n ih =>
      intro z_6 hn H locs ls hP hD hS hl
      obtain ⟨x, hM, hX⟩ := it_succ hn
      clear hn
      refine lv_iload_n hx hb dX3_isForest_6 rfl (lv_at hl 0 rfl) ?_
      refine lv_aload_n hx hb dX3_isForest_7 rfl (lv_at hl 2 rfl) ?_
      refine w_getN cx hP 3 2 1 rfl rfl (by decide) n_74 rfl rfl dX3_isForest_8 ?_
      refine lv_icmp_ge (tgt := 52) hx hb dX3_isForest_11 (by decide) (fun c_11 => ?_) (fun c_11 => ?_)
      · have hM := if_t hM c_11
        obtain rfl := Option.some.inj hM
        obtain rfl : _ = r_6 := hX
        exact hE_6_1 _ rfl _ _ _ hP hD hS (lv_sub hl [] rfl)
      · have hM := if_f hM c_11
        refine lv_iload_n hx hb dX3_isForest_14 rfl (lv_at hl 3 rfl) ?_
        refine lv_iload_n hx hb dX3_isForest_15 rfl (lv_at hl 0 rfl) ?_
        refine lv_ishr hx hb dX3_isForest_16 ?_
        refine lv_iconst (v := (nI 1)) hx hb dX3_isForest_17 (by decide) ?_
        refine lv_iand hx hb dX3_isForest_18 ?_
        refine lv_iconst (v := (nI 1)) hx hb dX3_isForest_19 (by decide) ?_
        obtain ⟨j_20, hB, hM⟩ := bd_some hM
        have hJ_20 : ∀ (H : Heap) (locs : List Loc) (ls : Array Slot), va_P (gD g) vwCl [ob h_t 3 [.ref h_t_groups, .ref h_t_sides], aI g h_t_groups 6 z_6.2.1, aI g h_t_sides 6 z_6.2.2, ob h_p1 2 [.int p1_vertices, .int p1_edges, .ref h_p1_firsts, .ref h_p1_seconds, .ref h_p1_signs], aI g h_p1_firsts 9 a_p1_firsts, aI g h_p1_seconds 9 a_p1_seconds, aI g h_p1_signs 9 a_p1_signs] H → va_D A [ob h_t 3 [.ref h_t_groups, .ref h_t_sides], aI g h_t_groups 6 z_6.2.1, aI g h_t_sides 6 z_6.2.2, ob h_p1 2 [.int p1_vertices, .int p1_edges, .ref h_p1_firsts, .ref h_p1_seconds, .ref h_p1_signs], aI g h_p1_firsts 9 a_p1_firsts, aI g h_p1_seconds 9 a_p1_seconds, aI g h_p1_signs 9 a_p1_signs] → va_S A s.heap H locs → lv_has ls 5 [(3, .int z_6.1), (0, .ref h_t), (1, .ref h_p1), (2, .int p2)] → W p l e (rmv 2 49) s m args below meth c H locs 0 0 Q (F0 m 28 ls [.int j_20]) := by
          intro H locs ls hP hD hS hl
          refine lv_istore (lv' := [(4, .int j_20), (3, .int z_6.1), (0, .ref h_t), (1, .ref h_p1), (2, .int p2)]) hx hb dX3_isForest_28 hl (by decide) rfl (fun ls hl => ?_)
          refine lv_iload hx hb dX3_isForest_30 (lv_at hl 0 rfl) ?_
          refine lv_if_eq (tgt := 46) hx hb dX3_isForest_32 (by decide) (fun c_32 => ?_) (fun c_32 => ?_)
          · have hM := if_t hM c_32
            refine lv_iinc (v := z_6.1 + (nI 1)) (lv' := [(3, .int (z_6.1 + (nI 1))), (4, .int j_20), (0, .ref h_t), (1, .ref h_p1), (2, .int p2)]) hx hb dX3_isForest_46 hl (k := 1) rfl (congrArg (fun q => z_6.1 + q) (show Int32.ofInt (1) = (nI 1) by decide)) (by decide) rfl (fun ls hl => ?_)
            refine lv_goto (tgt := 6) hx hb dX3_isForest_49 (by decide) ?_
            obtain rfl := Option.some.inj hM
            exact ih _ hX _ _ _ hP hD hS (lv_sub hl [0, 2, 3, 4] rfl)
          · have hM := if_f hM c_32
            refine lv_aload_n hx hb dX3_isForest_35 rfl (lv_at hl 2 rfl) ?_
            refine lv_aload_n hx hb dX3_isForest_36 rfl (lv_at hl 3 rfl) ?_
            refine lv_iload_n hx hb dX3_isForest_37 rfl (lv_at hl 1 rfl) ?_
            obtain ⟨q_38, hc_38, hM⟩ := bd_some hM
            refine w_callV cx hP hD hS hA (c_X3_unite g l h_t h_t_groups h_t_sides h_p1 h_p1_firsts h_p1_seconds h_p1_signs z_6.1 z_6.2.1 z_6.2.2 p1_vertices p1_edges a_p1_firsts a_p1_seconds a_p1_signs hc_38) [0, 1, 2, 3, 4, 5, 6] rfl (by decide) rfl [ob h_t 3 [.ref h_t_groups, .ref h_t_sides], aI g h_t_groups 6 q_38.2.1, aI g h_t_sides 6 q_38.2.2, ob h_p1 2 [.int p1_vertices, .int p1_edges, .ref h_p1_firsts, .ref h_p1_seconds, .ref h_p1_signs], aI g h_p1_firsts 9 a_p1_firsts, aI g h_p1_seconds 9 a_p1_seconds, aI g h_p1_signs 9 a_p1_signs] rfl 0 3 rfl rfl yq_X3_unite rfl m_415 m_417 m_7 m_46 m_418 ⟨Nat.le_of_ble_eq_true rfl, Nat.le_of_ble_eq_true rfl⟩ rfl rfl hl.1 (Nat.le_of_ble_eq_true rfl) dX3_isForest_38 ⟨Nat.le_refl 0, Nat.le_refl 0⟩ rfl (fun H locs hP hD hS => ?_)
            refine lv_if_ne (tgt := 46) hx hb dX3_isForest_41 (by decide) (fun c_41 => ?_) (fun c_41 => ?_)
            · have hM := if_f hM c_41
              refine lv_iinc (v := z_6.1 + (nI 1)) (lv' := [(3, .int (z_6.1 + (nI 1))), (4, .int j_20), (0, .ref h_t), (1, .ref h_p1), (2, .int p2)]) hx hb dX3_isForest_46 hl (k := 1) rfl (congrArg (fun q => z_6.1 + q) (show Int32.ofInt (1) = (nI 1) by decide)) (by decide) rfl (fun ls hl => ?_)
              refine lv_goto (tgt := 6) hx hb dX3_isForest_49 (by decide) ?_
              obtain rfl := Option.some.inj hM
              exact ih _ hX _ _ _ hP hD hS (lv_sub hl [0, 2, 3, 4] rfl)
            · have hM := if_t hM c_41
              obtain rfl := Option.some.inj hM
              obtain rfl : _ = r_6 := hX
              exact hE_6_0 _ rfl _ _ _ hP hD hS (lv_sub hl [] rfl)
        clear hM
        have hM := hB
        clear hB
        refine lv_icmp_ne (tgt := 27) hx hb dX3_isForest_20 (by decide) (fun c_20 => ?_) (fun c_20 => ?_)
        · have hM := if_f hM c_20
          refine lv_iconst (v := (nI 0)) hx hb dX3_isForest_27 (by decide) ?_
          obtain rfl := Option.some.inj hM
          exact hJ_20 _ _ _ hP hD hS (lv_sub hl [0, 1, 2, 3] rfl)
        · have hM := if_t hM c_20
          refine lv_iconst (v := (nI 1)) hx hb dX3_isForest_23 (by decide) ?_
          refine lv_goto (tgt := 28) hx hb dX3_isForest_24 (by decide) ?_
          obtain rfl := Option.some.inj hM
          exact hJ_20 _ _ _ hP hD hS (lv_sub hl [0, 1, 2, 3] rfl)
  exact hL_6 n _ hn _ _ _ hP hD hS (lv_sub hl [0, 1, 2, 3] rfl)
noncomputable def b_X3_countTrees_4 (p1_vertices : Int32) (p1_edges : Int32) (a_p1_firsts : Nat → Int32) (a_p1_seconds : Nat → Int32) (a_p1_signs : Nat → Int32) : Int32 × Int32 × (Nat → Int32) × (Nat → Int32) → Option ((Int32 × Int32 × (Nat → Int32) × (Nat → Int32)) ⊕ ((Int32 × (Nat → Int32) × (Nat → Int32)))) := fun z_4 =>
  if ((nI 1) <<< (p1_edges &&& 31)) ≤ z_4.1 then some (.inr (z_4.2.1, z_4.2.2.1, z_4.2.2.2)) else bd (f_J6_bitCount_0f7a4 z_4.1) (fun (q_15 : Int32) => if q_15 = (p1_vertices - (nI 1)) then bd (f_X3_isForest z_4.1 z_4.2.2.1 z_4.2.2.2 p1_vertices p1_edges a_p1_firsts a_p1_seconds a_p1_signs) (fun (q_30 : Int32 × (Nat → Int32) × (Nat → Int32)) => if q_30.1 = 0 then some (.inl (z_4.1 + (nI 1), z_4.2.1, q_30.2.1, q_30.2.2)) else some (.inl (z_4.1 + (nI 1), z_4.2.1 + (nI 1), q_30.2.1, q_30.2.2))) else some (.inl (z_4.1 + (nI 1), z_4.2.1, z_4.2.2.1, z_4.2.2.2)))
noncomputable def f_X3_countTrees (a_t_groups : Nat → Int32) (a_t_sides : Nat → Int32) (p1_vertices : Int32) (p1_edges : Int32) (a_p1_firsts : Nat → Int32) (a_p1_seconds : Nat → Int32) (a_p1_signs : Nat → Int32) : Option (Int32 × (Nat → Int32) × (Nat → Int32)) :=
  bd (wh (b_X3_countTrees_4 p1_vertices p1_edges a_p1_firsts a_p1_seconds a_p1_signs) ((nI 0), (nI 0), a_t_groups, a_t_sides)) (fun (r_4 : Int32 × (Nat → Int32) × (Nat → Int32)) => some (r_4.1, r_4.2.1, r_4.2.2))
theorem yq_X3_countTrees : yq yX3_countTrees 1 := by unfold yq; decide +kernel
set_option maxHeartbeats 4000000 in
set_option maxRecDepth 100000 in
theorem c_X3_countTrees (g : GG) (l : Launch) (h_t : Nat) (h_t_groups : Nat) (h_t_sides : Nat) (h_p1 : Nat) (h_p1_firsts : Nat) (h_p1_seconds : Nat) (h_p1_signs : Nat) (a_t_groups : Nat → Int32) (a_t_sides : Nat → Int32) (p1_vertices : Int32) (p1_edges : Int32) (a_p1_firsts : Nat → Int32) (a_p1_seconds : Nat → Int32) (a_p1_signs : Nat → Int32) {R : Int32 × (Nat → Int32) × (Nat → Int32)} (hM : f_X3_countTrees a_t_groups a_t_sides p1_vertices p1_edges a_p1_firsts a_p1_seconds a_p1_signs = some R) : CT g l yX3_countTrees cX3_countTrees 4 (some .int) 3 73 [.ref h_t, .ref h_p1] [ob h_t 3 [.ref h_t_groups, .ref h_t_sides], aI g h_t_groups 6 a_t_groups, aI g h_t_sides 6 a_t_sides, ob h_p1 2 [.int p1_vertices, .int p1_edges, .ref h_p1_firsts, .ref h_p1_seconds, .ref h_p1_signs], aI g h_p1_firsts 9 a_p1_firsts, aI g h_p1_seconds 9 a_p1_seconds, aI g h_p1_signs 9 a_p1_signs] [ob h_t 3 [.ref h_t_groups, .ref h_t_sides], aI g h_t_groups 6 R.2.1, aI g h_t_sides 6 R.2.2, ob h_p1 2 [.int p1_vertices, .int p1_edges, .ref h_p1_firsts, .ref h_p1_seconds, .ref h_p1_signs], aI g h_p1_firsts 9 a_p1_firsts, aI g h_p1_seconds 9 a_p1_seconds, aI g h_p1_signs 9 a_p1_signs] (some (.int R.1)) := by
  refine ct_i (by decide +kernel) (Nat.le_of_ble_eq_true rfl) ?_
  intro p e s m args below meth c Q A ls cx hP hD hA hl hfin
  obtain ⟨hx, hb, hml, hown, hts, hK⟩ := id cx
  have hl : lv_has ls 4 [(0, .ref h_t), (1, .ref h_p1)] := hl
  have hS : va_S A s.heap s.heap [] := va_S.rf
  refine lv_iconst (v := (nI 0)) hx hb dX3_countTrees_0 (by decide) ?_
  refine lv_istore_n (lv' := [(2, .int (nI 0)), (0, .ref h_t), (1, .ref h_p1)]) hx hb dX3_countTrees_1 rfl hl (by decide) rfl (fun ls hl => ?_)
  refine lv_iconst (v := (nI 0)) hx hb dX3_countTrees_2 (by decide) ?_
  refine lv_istore_n (lv' := [(3, .int (nI 0)), (2, .int (nI 0)), (0, .ref h_t), (1, .ref h_p1)]) hx hb dX3_countTrees_3 rfl hl (by decide) rfl (fun ls hl => ?_)
  obtain ⟨r_4, hw, hM⟩ := bd_some hM
  obtain ⟨n, hn⟩ := wh_some hw
  clear hw
  have hE_4_0 : ∀ (H : Heap) (locs : List Loc) (ls : Array Slot), va_P (gD g) vwCl [ob h_t 3 [.ref h_t_groups, .ref h_t_sides], aI g h_t_groups 6 r_4.2.1, aI g h_t_sides 6 r_4.2.2, ob h_p1 2 [.int p1_vertices, .int p1_edges, .ref h_p1_firsts, .ref h_p1_seconds, .ref h_p1_signs], aI g h_p1_firsts 9 a_p1_firsts, aI g h_p1_seconds 9 a_p1_seconds, aI g h_p1_signs 9 a_p1_signs] H → va_D A [ob h_t 3 [.ref h_t_groups, .ref h_t_sides], aI g h_t_groups 6 r_4.2.1, aI g h_t_sides 6 r_4.2.2, ob h_p1 2 [.int p1_vertices, .int p1_edges, .ref h_p1_firsts, .ref h_p1_seconds, .ref h_p1_signs], aI g h_p1_firsts 9 a_p1_firsts, aI g h_p1_seconds 9 a_p1_seconds, aI g h_p1_signs 9 a_p1_signs] → va_S A s.heap H locs → lv_has ls 4 [(2, .int r_4.1)] → W p l e (rmv 3 73) s m args below meth c H locs 0 0 Q (F0 m 45 ls []) := by
    intro H locs ls hP hD hS hl
    refine lv_iload_n hx hb dX3_countTrees_45 rfl (lv_at hl 0 rfl) ?_
    obtain rfl := Option.some.inj hM
    exact hfin 46 _ _ _ dX3_countTrees_46 hP hD hS
  clear hM
  have hL_4 : ∀ (n : Nat) (z_4 : Int32 × Int32 × (Nat → Int32) × (Nat → Int32)), it (b_X3_countTrees_4 p1_vertices p1_edges a_p1_firsts a_p1_seconds a_p1_signs) n z_4 = some r_4 → ∀ (H : Heap) (locs : List Loc) (ls : Array Slot), va_P (gD g) vwCl [ob h_t 3 [.ref h_t_groups, .ref h_t_sides], aI g h_t_groups 6 z_4.2.2.1, aI g h_t_sides 6 z_4.2.2.2, ob h_p1 2 [.int p1_vertices, .int p1_edges, .ref h_p1_firsts, .ref h_p1_seconds, .ref h_p1_signs], aI g h_p1_firsts 9 a_p1_firsts, aI g h_p1_seconds 9 a_p1_seconds, aI g h_p1_signs 9 a_p1_signs] H → va_D A [ob h_t 3 [.ref h_t_groups, .ref h_t_sides], aI g h_t_groups 6 z_4.2.2.1, aI g h_t_sides 6 z_4.2.2.2, ob h_p1 2 [.int p1_vertices, .int p1_edges, .ref h_p1_firsts, .ref h_p1_seconds, .ref h_p1_signs], aI g h_p1_firsts 9 a_p1_firsts, aI g h_p1_seconds 9 a_p1_seconds, aI g h_p1_signs 9 a_p1_signs] → va_S A s.heap H locs → lv_has ls 4 [(3, .int z_4.1), (2, .int z_4.2.1), (0, .ref h_t), (1, .ref h_p1)] → W p l e (rmv 3 73) s m args below meth c H locs 0 0 Q (F0 m 4 ls []) := by
    intro n
    induction n with
    | zero => intro z_4 hn; exact (it_zero hn).elim
    | succ n ih =>
      intro z_4 hn H locs ls hP hD hS hl
      obtain ⟨x, hM, hX⟩ := it_succ hn
      clear hn
      refine lv_iload_n hx hb dX3_countTrees_4 rfl (lv_at hl 0 rfl) ?_
      refine lv_iconst (v := (nI 1)) hx hb dX3_countTrees_5 (by decide) ?_
      refine lv_aload_n hx hb dX3_countTrees_6 rfl (lv_at hl 3 rfl) ?_
      refine w_getN cx hP 3 2 1 rfl rfl (by decide) n_74 rfl rfl dX3_countTrees_7 ?_
      refine lv_ishl hx hb dX3_countTrees_10 ?_
      refine lv_icmp_ge (tgt := 45) hx hb dX3_countTrees_11 (by decide) (fun c_11 => ?_) (fun c_11 => ?_)
      · have hM := if_t hM c_11
        obtain rfl := Option.some.inj hM
        obtain rfl : _ = r_4 := hX
        exact hE_4_0 _ _ _ hP hD hS (lv_sub hl [1] rfl)
      · have hM := if_f hM c_11
        refine lv_iload_n hx hb dX3_countTrees_14 rfl (lv_at hl 0 rfl) ?_
        obtain ⟨q_15, hc_15, hM⟩ := bd_some hM
        refine w_callS cx hP hD hS hA (c_J6_bitCount_0f7a4 g l z_4.1 hc_15) [] rfl (by decide) rfl [ob h_t 3 [.ref h_t_groups, .ref h_t_sides], aI g h_t_groups 6 z_4.2.2.1, aI g h_t_sides 6 z_4.2.2.2, ob h_p1 2 [.int p1_vertices, .int p1_edges, .ref h_p1_firsts, .ref h_p1_seconds, .ref h_p1_signs], aI g h_p1_firsts 9 a_p1_firsts, aI g h_p1_seconds 9 a_p1_seconds, aI g h_p1_signs 9 a_p1_signs] rfl yq_J6_bitCount_0f7a4 m_633 m_565 m_53 m_566 ⟨Nat.le_of_ble_eq_true rfl, Nat.le_of_ble_eq_true rfl⟩ rfl rfl hl.1 (Nat.le_of_ble_eq_true rfl) dX3_countTrees_15 ⟨Nat.le_refl 0, Nat.le_refl 0⟩ rfl (fun H locs hP hD hS => ?_)
        refine lv_aload_n hx hb dX3_countTrees_18 rfl (lv_at hl 3 rfl) ?_
        refine w_getN cx hP 3 2 0 rfl rfl (by decide) n_70 rfl rfl dX3_countTrees_19 ?_
        refine lv_iconst (v := (nI 1)) hx hb dX3_countTrees_22 (by decide) ?_
        refine lv_isub hx hb dX3_countTrees_23 ?_
        refine lv_icmp_ne (tgt := 39) hx hb dX3_countTrees_24 (by decide) (fun c_24 => ?_) (fun c_24 => ?_)
        · have hM := if_f hM c_24
          refine lv_iinc (v := z_4.1 + (nI 1)) (lv' := [(3, .int (z_4.1 + (nI 1))), (2, .int z_4.2.1), (0, .ref h_t), (1, .ref h_p1)]) hx hb dX3_countTrees_39 hl (k := 0) rfl (congrArg (fun q => z_4.1 + q) (show Int32.ofInt (1) = (nI 1) by decide)) (by decide) rfl (fun ls hl => ?_)
          refine lv_goto (tgt := 4) hx hb dX3_countTrees_42 (by decide) ?_
          obtain rfl := Option.some.inj hM
          exact ih _ hX _ _ _ hP hD hS (lv_sub hl [0, 1, 2, 3] rfl)
        · have hM := if_t hM c_24
          refine lv_aload_n hx hb dX3_countTrees_27 rfl (lv_at hl 2 rfl) ?_
          refine lv_aload_n hx hb dX3_countTrees_28 rfl (lv_at hl 3 rfl) ?_
          refine lv_iload_n hx hb dX3_countTrees_29 rfl (lv_at hl 0 rfl) ?_
          obtain ⟨q_30, hc_30, hM⟩ := bd_some hM
          refine w_callV cx hP hD hS hA (c_X3_isForest g l h_t h_t_groups h_t_sides h_p1 h_p1_firsts h_p1_seconds h_p1_signs z_4.1 z_4.2.2.1 z_4.2.2.2 p1_vertices p1_edges a_p1_firsts a_p1_seconds a_p1_signs hc_30) [0, 1, 2, 3, 4, 5, 6] rfl (by decide) rfl [ob h_t 3 [.ref h_t_groups, .ref h_t_sides], aI g h_t_groups 6 q_30.2.1, aI g h_t_sides 6 q_30.2.2, ob h_p1 2 [.int p1_vertices, .int p1_edges, .ref h_p1_firsts, .ref h_p1_seconds, .ref h_p1_signs], aI g h_p1_firsts 9 a_p1_firsts, aI g h_p1_seconds 9 a_p1_seconds, aI g h_p1_signs 9 a_p1_signs] rfl 0 3 rfl rfl yq_X3_isForest rfl m_634 m_636 m_15 m_46 m_637 ⟨Nat.le_of_ble_eq_true rfl, Nat.le_of_ble_eq_true rfl⟩ rfl rfl hl.1 (Nat.le_of_ble_eq_true rfl) dX3_countTrees_30 ⟨Nat.le_refl 0, Nat.le_refl 0⟩ rfl (fun H locs hP hD hS => ?_)
          refine lv_if_eq (tgt := 39) hx hb dX3_countTrees_33 (by decide) (fun c_33 => ?_) (fun c_33 => ?_)
          · have hM := if_t hM c_33
            refine lv_iinc (v := z_4.1 + (nI 1)) (lv' := [(3, .int (z_4.1 + (nI 1))), (2, .int z_4.2.1), (0, .ref h_t), (1, .ref h_p1)]) hx hb dX3_countTrees_39 hl (k := 0) rfl (congrArg (fun q => z_4.1 + q) (show Int32.ofInt (1) = (nI 1) by decide)) (by decide) rfl (fun ls hl => ?_)
            refine lv_goto (tgt := 4) hx hb dX3_countTrees_42 (by decide) ?_
            obtain rfl := Option.some.inj hM
            exact ih _ hX _ _ _ hP hD hS (lv_sub hl [0, 1, 2, 3] rfl)
          · have hM := if_f hM c_33
            refine lv_iinc (v := z_4.2.1 + (nI 1)) (lv' := [(2, .int (z_4.2.1 + (nI 1))), (3, .int z_4.1), (0, .ref h_t), (1, .ref h_p1)]) hx hb dX3_countTrees_36 hl (k := 1) rfl (congrArg (fun q => z_4.2.1 + q) (show Int32.ofInt (1) = (nI 1) by decide)) (by decide) rfl (fun ls hl => ?_)
            refine lv_iinc (v := z_4.1 + (nI 1)) (lv' := [(3, .int (z_4.1 + (nI 1))), (2, .int (z_4.2.1 + (nI 1))), (0, .ref h_t), (1, .ref h_p1)]) hx hb dX3_countTrees_39 hl (k := 1) rfl (congrArg (fun q => z_4.1 + q) (show Int32.ofInt (1) = (nI 1) by decide)) (by decide) rfl (fun ls hl => ?_)
            refine lv_goto (tgt := 4) hx hb dX3_countTrees_42 (by decide) ?_
            obtain rfl := Option.some.inj hM
            exact ih _ hX _ _ _ hP hD hS (lv_sub hl [0, 1, 2, 3] rfl)
  exact hL_4 n _ hn _ _ _ hP hD hS (lv_sub hl [0, 1, 2, 3] rfl)
noncomputable def f_X1_append (p1 : Int32) (t_length : Int32) (t_stage : Int32) (t_first : Int32) (t_second : Int32) (t_sign : Int32) (a_t_characters : Nat → Int32) : Option (Int32 × (Nat → Int32)) :=
  if (nI 60) ≤ t_length then some (t_length, a_t_characters) else gd (inb t_length 60) (some ((t_length + (nI 1)), upd a_t_characters t_length.toNatClampNeg p1))
theorem yq_X1_append : yq yX1_append 1 := by unfold yq; decide +kernel
set_option maxHeartbeats 4000000 in
set_option maxRecDepth 100000 in
theorem c_X1_append (g : GG) (l : Launch) (h_t : Nat) (h_t_characters : Nat) (p1 : Int32) (t_length : Int32) (t_stage : Int32) (t_first : Int32) (t_second : Int32) (t_sign : Int32) (a_t_characters : Nat → Int32) {R : Int32 × (Nat → Int32)} (hM : f_X1_append p1 t_length t_stage t_first t_second t_sign a_t_characters = some R) : CT g l yX1_append cX1_append 2 none 0 0 [.ref h_t, .int p1] [ob h_t 1 [.int t_length, .ref h_t_characters, .int t_stage, .int t_first, .int t_second, .int t_sign], aI g h_t_characters 60 a_t_characters] [ob h_t 1 [.int R.1, .ref h_t_characters, .int t_stage, .int t_first, .int t_second, .int t_sign], aI g h_t_characters 60 R.2] none := by
  refine ct_v (by decide +kernel) (Nat.le_of_ble_eq_true rfl) ?_
  intro p e s m args below meth c Q A ls cx hP hD hA hl hfin
  obtain ⟨hx, hb, hml, hown, hts, hK⟩ := id cx
  have hl : lv_has ls 2 [(0, .ref h_t), (1, .int p1)] := hl
  have hS : va_S A s.heap s.heap [] := va_S.rf
  refine lv_aload_n hx hb dX1_append_0 rfl (lv_at hl 0 rfl) ?_
  refine w_get cx hP 0 1 0 rfl rfl (by decide) m_122 rfl rfl dX1_append_1 ?_
  refine lv_bipush (v := (nI 60)) hx hb dX1_append_4 (by decide) ?_
  refine lv_icmp_ge (tgt := 29) hx hb dX1_append_6 (by decide) (fun c_6 => ?_) (fun c_6 => ?_)
  · have hM := if_t hM c_6
    obtain rfl := Option.some.inj hM
    exact hfin 29 _ _ _ dX1_append_29 hP hD hS
  · have hM := if_f hM c_6
    refine lv_aload_n hx hb dX1_append_9 rfl (lv_at hl 0 rfl) ?_
    refine w_get cx hP 0 1 1 rfl rfl (by decide) m_124 rfl rfl dX1_append_10 ?_
    refine lv_aload_n hx hb dX1_append_13 rfl (lv_at hl 0 rfl) ?_
    refine w_get cx hP 0 1 0 rfl rfl (by decide) m_122 rfl rfl dX1_append_14 ?_
    refine lv_iload_n hx hb dX1_append_17 rfl (lv_at hl 1 rfl) ?_
    obtain ⟨g_18, hM⟩ := gd_some hM
    refine w_iast cx hP hD hS 1 rfl g_18 dX1_append_18 [ob h_t 1 [.int t_length, .ref h_t_characters, .int t_stage, .int t_first, .int t_second, .int t_sign], aI g h_t_characters 60 (upd a_t_characters t_length.toNatClampNeg p1)] rfl (fun H locs hP hD hS => ?_)
    refine lv_aload_n hx hb dX1_append_19 rfl (lv_at hl 0 rfl) ?_
    refine lv_dup hx hb dX1_append_20 rfl ?_
    refine w_get cx hP 0 1 0 rfl rfl (by decide) m_122 rfl rfl dX1_append_21 ?_
    refine lv_iconst (v := (nI 1)) hx hb dX1_append_24 (by decide) ?_
    refine lv_iadd hx hb dX1_append_25 ?_
    refine w_put cx hP hD hS 0 1 0 rfl rfl (by decide) m_122 rfl rfl rfl (Nat.le_of_ble_eq_true rfl) dX1_append_26 [ob h_t 1 [.int (t_length + (nI 1)), .ref h_t_characters, .int t_stage, .int t_first, .int t_second, .int t_sign], aI g h_t_characters 60 (upd a_t_characters t_length.toNatClampNeg p1)] rfl (fun H locs hP hD hS => ?_)
    obtain rfl := Option.some.inj hM
    exact hfin 29 _ _ _ dX1_append_29 hP hD hS
noncomputable def f_X1_acceptFirst (p1 : Int32) (t_length : Int32) (t_stage : Int32) (t_first : Int32) (t_second : Int32) (t_sign : Int32) (p2_vertices : Int32) (p2_edges : Int32) : Option (Int32 × Int32 × Int32) :=
  bd (f_X2_isFull p2_vertices p2_edges) (fun (q_1 : Int32) => if q_1 = 0 then bd (f_X2_hasVertex p1 p2_vertices p2_edges) (fun (q_9 : Int32) => if q_9 = 0 then some ((nI 0), t_stage, t_first) else some ((nI 1), (nI 1), p1)) else some ((nI 0), t_stage, t_first))
theorem yq_X1_acceptFirst : yq yX1_acceptFirst 2 := by unfold yq; decide +kernel
set_option maxHeartbeats 4000000 in
set_option maxRecDepth 100000 in
theorem c_X1_acceptFirst (g : GG) (l : Launch) (h_t : Nat) (h_t_characters : Nat) (h_p2 : Nat) (h_p2_firsts : Nat) (h_p2_seconds : Nat) (h_p2_signs : Nat) (p1 : Int32) (t_length : Int32) (t_stage : Int32) (t_first : Int32) (t_second : Int32) (t_sign : Int32) (p2_vertices : Int32) (p2_edges : Int32) {R : Int32 × Int32 × Int32} (hM : f_X1_acceptFirst p1 t_length t_stage t_first t_second t_sign p2_vertices p2_edges = some R) : CT g l yX1_acceptFirst cX1_acceptFirst 3 (some .boolean) 1 21 [.ref h_t, .int p1, .ref h_p2] [ob h_t 1 [.int t_length, .ref h_t_characters, .int t_stage, .int t_first, .int t_second, .int t_sign], ob h_p2 2 [.int p2_vertices, .int p2_edges, .ref h_p2_firsts, .ref h_p2_seconds, .ref h_p2_signs]] [ob h_t 1 [.int t_length, .ref h_t_characters, .int R.2.1, .int R.2.2, .int t_second, .int t_sign], ob h_p2 2 [.int p2_vertices, .int p2_edges, .ref h_p2_firsts, .ref h_p2_seconds, .ref h_p2_signs]] (some (.int R.1)) := by
  refine ct_z (by decide +kernel) (Nat.le_of_ble_eq_true rfl) ?_
  intro p e s m args below meth c Q A ls cx hP hD hA hl hfin
  obtain ⟨hx, hb, hml, hown, hts, hK⟩ := id cx
  have hl : lv_has ls 3 [(0, .ref h_t), (1, .int p1), (2, .ref h_p2)] := hl
  have hS : va_S A s.heap s.heap [] := va_S.rf
  refine lv_aload_n hx hb dX1_acceptFirst_0 rfl (lv_at hl 2 rfl) ?_
  obtain ⟨q_1, hc_1, hM⟩ := bd_some hM
  refine w_callV cx hP hD hS hA (c_X2_isFull g l h_p2 h_p2_firsts h_p2_seconds h_p2_signs p2_vertices p2_edges hc_1) [1] rfl (by decide) rfl [ob h_t 1 [.int t_length, .ref h_t_characters, .int t_stage, .int t_first, .int t_second, .int t_sign], ob h_p2 2 [.int p2_vertices, .int p2_edges, .ref h_p2_firsts, .ref h_p2_seconds, .ref h_p2_signs]] rfl 1 2 rfl rfl yq_X2_isFull rfl m_338 m_286 m_287 m_43 m_288 ⟨Nat.le_of_ble_eq_true rfl, Nat.le_of_ble_eq_true rfl⟩ rfl rfl hl.1 (Nat.le_of_ble_eq_true rfl) dX1_acceptFirst_1 ⟨Nat.le_refl 0, Nat.le_refl 0⟩ rfl (fun H locs hP hD hS => ?_)
  refine lv_if_ne (tgt := 15) hx hb dX1_acceptFirst_4 (by decide) (fun c_4 => ?_) (fun c_4 => ?_)
  · have hM := if_f hM c_4
    refine lv_iconst (v := (nI 0)) hx hb dX1_acceptFirst_15 (by decide) ?_
    have hz : bq (nI 0) = true := by decide
    obtain rfl := Option.some.inj hM
    exact hfin 16 _ _ _ dX1_acceptFirst_16 hz hP hD hS
  · have hM := if_t hM c_4
    refine lv_aload_n hx hb dX1_acceptFirst_7 rfl (lv_at hl 2 rfl) ?_
    refine lv_iload_n hx hb dX1_acceptFirst_8 rfl (lv_at hl 1 rfl) ?_
    obtain ⟨q_9, hc_9, hM⟩ := bd_some hM
    refine w_callV cx hP hD hS hA (c_X2_hasVertex g l h_p2 h_p2_firsts h_p2_seconds h_p2_signs p1 p2_vertices p2_edges hc_9) [1] rfl (by decide) rfl [ob h_t 1 [.int t_length, .ref h_t_characters, .int t_stage, .int t_first, .int t_second, .int t_sign], ob h_p2 2 [.int p2_vertices, .int p2_edges, .ref h_p2_firsts, .ref h_p2_seconds, .ref h_p2_signs]] rfl 1 2 rfl rfl yq_X2_hasVertex rfl m_339 m_282 m_283 m_43 m_284 ⟨Nat.le_of_ble_eq_true rfl, Nat.le_of_ble_eq_true rfl⟩ rfl rfl hl.1 (Nat.le_of_ble_eq_true rfl) dX1_acceptFirst_9 ⟨Nat.le_refl 0, Nat.le_refl 0⟩ rfl (fun H locs hP hD hS => ?_)
    refine lv_if_ne (tgt := 17) hx hb dX1_acceptFirst_12 (by decide) (fun c_12 => ?_) (fun c_12 => ?_)
    · have hM := if_f hM c_12
      refine lv_aload_n hx hb dX1_acceptFirst_17 rfl (lv_at hl 0 rfl) ?_
      refine lv_iload_n hx hb dX1_acceptFirst_18 rfl (lv_at hl 1 rfl) ?_
      refine w_put cx hP hD hS 0 1 3 rfl rfl (by decide) m_126 rfl rfl rfl (Nat.le_of_ble_eq_true rfl) dX1_acceptFirst_19 [ob h_t 1 [.int t_length, .ref h_t_characters, .int t_stage, .int p1, .int t_second, .int t_sign], ob h_p2 2 [.int p2_vertices, .int p2_edges, .ref h_p2_firsts, .ref h_p2_seconds, .ref h_p2_signs]] rfl (fun H locs hP hD hS => ?_)
      refine lv_aload_n hx hb dX1_acceptFirst_22 rfl (lv_at hl 0 rfl) ?_
      refine lv_iconst (v := (nI 1)) hx hb dX1_acceptFirst_23 (by decide) ?_
      refine w_put cx hP hD hS 0 1 2 rfl rfl (by decide) m_125 rfl rfl rfl (Nat.le_of_ble_eq_true rfl) dX1_acceptFirst_24 [ob h_t 1 [.int t_length, .ref h_t_characters, .int (nI 1), .int p1, .int t_second, .int t_sign], ob h_p2 2 [.int p2_vertices, .int p2_edges, .ref h_p2_firsts, .ref h_p2_seconds, .ref h_p2_signs]] rfl (fun H locs hP hD hS => ?_)
      refine lv_iconst (v := (nI 1)) hx hb dX1_acceptFirst_27 (by decide) ?_
      have hz : bq (nI 1) = true := by decide
      obtain rfl := Option.some.inj hM
      exact hfin 28 _ _ _ dX1_acceptFirst_28 hz hP hD hS
    · have hM := if_t hM c_12
      refine lv_iconst (v := (nI 0)) hx hb dX1_acceptFirst_15 (by decide) ?_
      have hz : bq (nI 0) = true := by decide
      obtain rfl := Option.some.inj hM
      exact hfin 16 _ _ _ dX1_acceptFirst_16 hz hP hD hS
noncomputable def f_X1_acceptSign (p1 : Int32) (t_length : Int32) (t_stage : Int32) (t_first : Int32) (t_second : Int32) (t_sign : Int32) : Option (Int32 × Int32 × Int32) :=
  if p1 = (nI 45) then bd (if p1 = (nI 45) then some (nI 1) else some (nI 4294967295)) (fun (j_18 : Int32) => some ((nI 1), (nI 2), j_18)) else if p1 = (nI 126) then bd (if p1 = (nI 45) then some (nI 1) else some (nI 4294967295)) (fun (j_18 : Int32) => some ((nI 1), (nI 2), j_18)) else some ((nI 0), t_stage, t_sign)
theorem yq_X1_acceptSign : yq yX1_acceptSign 1 := by unfold yq; decide +kernel
set_option maxHeartbeats 4000000 in
set_option maxRecDepth 100000 in
theorem c_X1_acceptSign (g : GG) (l : Launch) (h_t : Nat) (h_t_characters : Nat) (p1 : Int32) (t_length : Int32) (t_stage : Int32) (t_first : Int32) (t_second : Int32) (t_sign : Int32) {R : Int32 × Int32 × Int32} (hM : f_X1_acceptSign p1 t_length t_stage t_first t_second t_sign = some R) : CT g l yX1_acceptSign cX1_acceptSign 2 (some .boolean) 0 0 [.ref h_t, .int p1] [ob h_t 1 [.int t_length, .ref h_t_characters, .int t_stage, .int t_first, .int t_second, .int t_sign]] [ob h_t 1 [.int t_length, .ref h_t_characters, .int R.2.1, .int t_first, .int t_second, .int R.2.2]] (some (.int R.1)) := by
  refine ct_z (by decide +kernel) (Nat.le_of_ble_eq_true rfl) ?_
  intro p e s m args below meth c Q A ls cx hP hD hA hl hfin
  obtain ⟨hx, hb, hml, hown, hts, hK⟩ := id cx
  have hl : lv_has ls 2 [(0, .ref h_t), (1, .int p1)] := hl
  have hS : va_S A s.heap s.heap [] := va_S.rf
  refine lv_iload_n hx hb dX1_acceptSign_0 rfl (lv_at hl 1 rfl) ?_
  refine lv_bipush (v := (nI 45)) hx hb dX1_acceptSign_1 (by decide) ?_
  refine lv_icmp_eq (tgt := 14) hx hb dX1_acceptSign_3 (by decide) (fun c_3 => ?_) (fun c_3 => ?_)
  · have hM := if_t hM c_3
    refine lv_aload_n hx hb dX1_acceptSign_14 rfl (lv_at hl 0 rfl) ?_
    refine lv_iload_n hx hb dX1_acceptSign_15 rfl (lv_at hl 1 rfl) ?_
    refine lv_bipush (v := (nI 45)) hx hb dX1_acceptSign_16 (by decide) ?_
    obtain ⟨j_18, hB, hM⟩ := bd_some hM
    have hJ_18 : ∀ (H : Heap) (locs : List Loc) (ls : Array Slot), va_P (gD g) vwCl [ob h_t 1 [.int t_length, .ref h_t_characters, .int t_stage, .int t_first, .int t_second, .int t_sign]] H → va_D A [ob h_t 1 [.int t_length, .ref h_t_characters, .int t_stage, .int t_first, .int t_second, .int t_sign]] → va_S A s.heap H locs → lv_has ls 2 [(0, .ref h_t)] → W p l e (rmv 0 0) s m args below meth c H locs 0 0 Q (F0 m 26 ls [.int j_18, .ref h_t]) := by
      intro H locs ls hP hD hS hl
      refine w_put cx hP hD hS 0 1 5 rfl rfl (by decide) m_128 rfl rfl rfl (Nat.le_of_ble_eq_true rfl) dX1_acceptSign_26 [ob h_t 1 [.int t_length, .ref h_t_characters, .int t_stage, .int t_first, .int t_second, .int j_18]] rfl (fun H locs hP hD hS => ?_)
      refine lv_aload_n hx hb dX1_acceptSign_29 rfl (lv_at hl 0 rfl) ?_
      refine lv_iconst (v := (nI 2)) hx hb dX1_acceptSign_30 (by decide) ?_
      refine w_put cx hP hD hS 0 1 2 rfl rfl (by decide) m_125 rfl rfl rfl (Nat.le_of_ble_eq_true rfl) dX1_acceptSign_31 [ob h_t 1 [.int t_length, .ref h_t_characters, .int (nI 2), .int t_first, .int t_second, .int j_18]] rfl (fun H locs hP hD hS => ?_)
      refine lv_iconst (v := (nI 1)) hx hb dX1_acceptSign_34 (by decide) ?_
      have hz : bq (nI 1) = true := by decide
      obtain rfl := Option.some.inj hM
      exact hfin 35 _ _ _ dX1_acceptSign_35 hz hP hD hS
    clear hM
    have hM := hB
    clear hB
    refine lv_icmp_ne (tgt := 25) hx hb dX1_acceptSign_18 (by decide) (fun c_18 => ?_) (fun c_18 => ?_)
    · have hM := if_f hM c_18
      refine lv_iconst (v := (nI 4294967295)) hx hb dX1_acceptSign_25 (by decide) ?_
      obtain rfl := Option.some.inj hM
      exact hJ_18 _ _ _ hP hD hS (lv_sub hl [0] rfl)
    · have hM := if_t hM c_18
      refine lv_iconst (v := (nI 1)) hx hb dX1_acceptSign_21 (by decide) ?_
      refine lv_goto (tgt := 26) hx hb dX1_acceptSign_22 (by decide) ?_
      obtain rfl := Option.some.inj hM
      exact hJ_18 _ _ _ hP hD hS (lv_sub hl [0] rfl)
  · have hM := if_f hM c_3
    refine lv_iload_n hx hb dX1_acceptSign_6 rfl (lv_at hl 1 rfl) ?_
    refine lv_bipush (v := (nI 126)) hx hb dX1_acceptSign_7 (by decide) ?_
    refine lv_icmp_eq (tgt := 14) hx hb dX1_acceptSign_9 (by decide) (fun c_9 => ?_) (fun c_9 => ?_)
    · have hM := if_t hM c_9
      refine lv_aload_n hx hb dX1_acceptSign_14 rfl (lv_at hl 0 rfl) ?_
      refine lv_iload_n hx hb dX1_acceptSign_15 rfl (lv_at hl 1 rfl) ?_
      refine lv_bipush (v := (nI 45)) hx hb dX1_acceptSign_16 (by decide) ?_
      obtain ⟨j_18, hB, hM⟩ := bd_some hM
      have hJ_18 : ∀ (H : Heap) (locs : List Loc) (ls : Array Slot), va_P (gD g) vwCl [ob h_t 1 [.int t_length, .ref h_t_characters, .int t_stage, .int t_first, .int t_second, .int t_sign]] H → va_D A [ob h_t 1 [.int t_length, .ref h_t_characters, .int t_stage, .int t_first, .int t_second, .int t_sign]] → va_S A s.heap H locs → lv_has ls 2 [(0, .ref h_t)] → W p l e (rmv 0 0) s m args below meth c H locs 0 0 Q (F0 m 26 ls [.int j_18, .ref h_t]) := by
        intro H locs ls hP hD hS hl
        refine w_put cx hP hD hS 0 1 5 rfl rfl (by decide) m_128 rfl rfl rfl (Nat.le_of_ble_eq_true rfl) dX1_acceptSign_26 [ob h_t 1 [.int t_length, .ref h_t_characters, .int t_stage, .int t_first, .int t_second, .int j_18]] rfl (fun H locs hP hD hS => ?_)
        refine lv_aload_n hx hb dX1_acceptSign_29 rfl (lv_at hl 0 rfl) ?_
        refine lv_iconst (v := (nI 2)) hx hb dX1_acceptSign_30 (by decide) ?_
        refine w_put cx hP hD hS 0 1 2 rfl rfl (by decide) m_125 rfl rfl rfl (Nat.le_of_ble_eq_true rfl) dX1_acceptSign_31 [ob h_t 1 [.int t_length, .ref h_t_characters, .int (nI 2), .int t_first, .int t_second, .int j_18]] rfl (fun H locs hP hD hS => ?_)
        refine lv_iconst (v := (nI 1)) hx hb dX1_acceptSign_34 (by decide) ?_
        have hz : bq (nI 1) = true := by decide
        obtain rfl := Option.some.inj hM
        exact hfin 35 _ _ _ dX1_acceptSign_35 hz hP hD hS
      clear hM
      have hM := hB
      clear hB
      refine lv_icmp_ne (tgt := 25) hx hb dX1_acceptSign_18 (by decide) (fun c_18 => ?_) (fun c_18 => ?_)
      · have hM := if_f hM c_18
        refine lv_iconst (v := (nI 4294967295)) hx hb dX1_acceptSign_25 (by decide) ?_
        obtain rfl := Option.some.inj hM
        exact hJ_18 _ _ _ hP hD hS (lv_sub hl [0] rfl)
      · have hM := if_t hM c_18
        refine lv_iconst (v := (nI 1)) hx hb dX1_acceptSign_21 (by decide) ?_
        refine lv_goto (tgt := 26) hx hb dX1_acceptSign_22 (by decide) ?_
        obtain rfl := Option.some.inj hM
        exact hJ_18 _ _ _ hP hD hS (lv_sub hl [0] rfl)
    · have hM := if_f hM c_9
      refine lv_iconst (v := (nI 0)) hx hb dX1_acceptSign_12 (by decide) ?_
      have hz : bq (nI 0) = true := by decide
      obtain rfl := Option.some.inj hM
      exact hfin 13 _ _ _ dX1_acceptSign_13 hz hP hD hS
noncomputable def f_X1_acceptSecond (p1 : Int32) (t_length : Int32) (t_stage : Int32) (t_first : Int32) (t_second : Int32) (t_sign : Int32) (p2_vertices : Int32) (p2_edges : Int32) : Option (Int32 × Int32 × Int32) :=
  if p1 = t_first then some ((nI 0), t_stage, t_second) else bd (f_X2_hasVertex p1 p2_vertices p2_edges) (fun (q_10 : Int32) => if q_10 = 0 then some ((nI 0), t_stage, t_second) else some ((nI 1), (nI 3), p1))
theorem yq_X1_acceptSecond : yq yX1_acceptSecond 2 := by unfold yq; decide +kernel
set_option maxHeartbeats 4000000 in
set_option maxRecDepth 100000 in
theorem c_X1_acceptSecond (g : GG) (l : Launch) (h_t : Nat) (h_t_characters : Nat) (h_p2 : Nat) (h_p2_firsts : Nat) (h_p2_seconds : Nat) (h_p2_signs : Nat) (p1 : Int32) (t_length : Int32) (t_stage : Int32) (t_first : Int32) (t_second : Int32) (t_sign : Int32) (p2_vertices : Int32) (p2_edges : Int32) {R : Int32 × Int32 × Int32} (hM : f_X1_acceptSecond p1 t_length t_stage t_first t_second t_sign p2_vertices p2_edges = some R) : CT g l yX1_acceptSecond cX1_acceptSecond 3 (some .boolean) 1 21 [.ref h_t, .int p1, .ref h_p2] [ob h_t 1 [.int t_length, .ref h_t_characters, .int t_stage, .int t_first, .int t_second, .int t_sign], ob h_p2 2 [.int p2_vertices, .int p2_edges, .ref h_p2_firsts, .ref h_p2_seconds, .ref h_p2_signs]] [ob h_t 1 [.int t_length, .ref h_t_characters, .int R.2.1, .int t_first, .int R.2.2, .int t_sign], ob h_p2 2 [.int p2_vertices, .int p2_edges, .ref h_p2_firsts, .ref h_p2_seconds, .ref h_p2_signs]] (some (.int R.1)) := by
  refine ct_z (by decide +kernel) (Nat.le_of_ble_eq_true rfl) ?_
  intro p e s m args below meth c Q A ls cx hP hD hA hl hfin
  obtain ⟨hx, hb, hml, hown, hts, hK⟩ := id cx
  have hl : lv_has ls 3 [(0, .ref h_t), (1, .int p1), (2, .ref h_p2)] := hl
  have hS : va_S A s.heap s.heap [] := va_S.rf
  refine lv_iload_n hx hb dX1_acceptSecond_0 rfl (lv_at hl 1 rfl) ?_
  refine lv_aload_n hx hb dX1_acceptSecond_1 rfl (lv_at hl 0 rfl) ?_
  refine w_get cx hP 0 1 3 rfl rfl (by decide) m_126 rfl rfl dX1_acceptSecond_2 ?_
  refine lv_icmp_eq (tgt := 16) hx hb dX1_acceptSecond_5 (by decide) (fun c_5 => ?_) (fun c_5 => ?_)
  · have hM := if_t hM c_5
    refine lv_iconst (v := (nI 0)) hx hb dX1_acceptSecond_16 (by decide) ?_
    have hz : bq (nI 0) = true := by decide
    obtain rfl := Option.some.inj hM
    exact hfin 17 _ _ _ dX1_acceptSecond_17 hz hP hD hS
  · have hM := if_f hM c_5
    refine lv_aload_n hx hb dX1_acceptSecond_8 rfl (lv_at hl 2 rfl) ?_
    refine lv_iload_n hx hb dX1_acceptSecond_9 rfl (lv_at hl 1 rfl) ?_
    obtain ⟨q_10, hc_10, hM⟩ := bd_some hM
    refine w_callV cx hP hD hS hA (c_X2_hasVertex g l h_p2 h_p2_firsts h_p2_seconds h_p2_signs p1 p2_vertices p2_edges hc_10) [1] rfl (by decide) rfl [ob h_t 1 [.int t_length, .ref h_t_characters, .int t_stage, .int t_first, .int t_second, .int t_sign], ob h_p2 2 [.int p2_vertices, .int p2_edges, .ref h_p2_firsts, .ref h_p2_seconds, .ref h_p2_signs]] rfl 1 2 rfl rfl yq_X2_hasVertex rfl m_339 m_282 m_283 m_43 m_284 ⟨Nat.le_of_ble_eq_true rfl, Nat.le_of_ble_eq_true rfl⟩ rfl rfl hl.1 (Nat.le_of_ble_eq_true rfl) dX1_acceptSecond_10 ⟨Nat.le_refl 0, Nat.le_refl 0⟩ rfl (fun H locs hP hD hS => ?_)
    refine lv_if_ne (tgt := 18) hx hb dX1_acceptSecond_13 (by decide) (fun c_13 => ?_) (fun c_13 => ?_)
    · have hM := if_f hM c_13
      refine lv_aload_n hx hb dX1_acceptSecond_18 rfl (lv_at hl 0 rfl) ?_
      refine lv_iload_n hx hb dX1_acceptSecond_19 rfl (lv_at hl 1 rfl) ?_
      refine w_put cx hP hD hS 0 1 4 rfl rfl (by decide) m_127 rfl rfl rfl (Nat.le_of_ble_eq_true rfl) dX1_acceptSecond_20 [ob h_t 1 [.int t_length, .ref h_t_characters, .int t_stage, .int t_first, .int p1, .int t_sign], ob h_p2 2 [.int p2_vertices, .int p2_edges, .ref h_p2_firsts, .ref h_p2_seconds, .ref h_p2_signs]] rfl (fun H locs hP hD hS => ?_)
      refine lv_aload_n hx hb dX1_acceptSecond_23 rfl (lv_at hl 0 rfl) ?_
      refine lv_iconst (v := (nI 3)) hx hb dX1_acceptSecond_24 (by decide) ?_
      refine w_put cx hP hD hS 0 1 2 rfl rfl (by decide) m_125 rfl rfl rfl (Nat.le_of_ble_eq_true rfl) dX1_acceptSecond_25 [ob h_t 1 [.int t_length, .ref h_t_characters, .int (nI 3), .int t_first, .int p1, .int t_sign], ob h_p2 2 [.int p2_vertices, .int p2_edges, .ref h_p2_firsts, .ref h_p2_seconds, .ref h_p2_signs]] rfl (fun H locs hP hD hS => ?_)
      refine lv_iconst (v := (nI 1)) hx hb dX1_acceptSecond_28 (by decide) ?_
      have hz : bq (nI 1) = true := by decide
      obtain rfl := Option.some.inj hM
      exact hfin 29 _ _ _ dX1_acceptSecond_29 hz hP hD hS
    · have hM := if_t hM c_13
      refine lv_iconst (v := (nI 0)) hx hb dX1_acceptSecond_16 (by decide) ?_
      have hz : bq (nI 0) = true := by decide
      obtain rfl := Option.some.inj hM
      exact hfin 17 _ _ _ dX1_acceptSecond_17 hz hP hD hS
noncomputable def f_X1_acceptEnd (p1 : Int32) (t_length : Int32) (t_stage : Int32) (t_first : Int32) (t_second : Int32) (t_sign : Int32) (p2_vertices : Int32) (p2_edges : Int32) (a_p2_firsts : Nat → Int32) (a_p2_seconds : Nat → Int32) (a_p2_signs : Nat → Int32) : Option (Int32 × Int32 × Int32 × (Nat → Int32) × (Nat → Int32) × (Nat → Int32)) :=
  if p1 = (nI 59) then bd (f_X2_append t_first t_second t_sign p2_vertices p2_edges a_p2_firsts a_p2_seconds a_p2_signs) (fun (q_21 : Int32 × (Nat → Int32) × (Nat → Int32) × (Nat → Int32)) => some ((nI 1), (nI 0), q_21.1, q_21.2.1, q_21.2.2.1, q_21.2.2.2)) else some ((nI 0), t_stage, p2_edges, a_p2_firsts, a_p2_seconds, a_p2_signs)
theorem yq_X1_acceptEnd : yq yX1_acceptEnd 2 := by unfold yq; decide +kernel
set_option maxHeartbeats 4000000 in
set_option maxRecDepth 100000 in
theorem c_X1_acceptEnd (g : GG) (l : Launch) (h_t : Nat) (h_t_characters : Nat) (h_p2 : Nat) (h_p2_firsts : Nat) (h_p2_seconds : Nat) (h_p2_signs : Nat) (p1 : Int32) (t_length : Int32) (t_stage : Int32) (t_first : Int32) (t_second : Int32) (t_sign : Int32) (p2_vertices : Int32) (p2_edges : Int32) (a_p2_firsts : Nat → Int32) (a_p2_seconds : Nat → Int32) (a_p2_signs : Nat → Int32) {R : Int32 × Int32 × Int32 × (Nat → Int32) × (Nat → Int32) × (Nat → Int32)} (hM : f_X1_acceptEnd p1 t_length t_stage t_first t_second t_sign p2_vertices p2_edges a_p2_firsts a_p2_seconds a_p2_signs = some R) : CT g l yX1_acceptEnd cX1_acceptEnd 3 (some .boolean) 2 43 [.ref h_t, .int p1, .ref h_p2] [ob h_t 1 [.int t_length, .ref h_t_characters, .int t_stage, .int t_first, .int t_second, .int t_sign], ob h_p2 2 [.int p2_vertices, .int p2_edges, .ref h_p2_firsts, .ref h_p2_seconds, .ref h_p2_signs], aI g h_p2_firsts 9 a_p2_firsts, aI g h_p2_seconds 9 a_p2_seconds, aI g h_p2_signs 9 a_p2_signs] [ob h_t 1 [.int t_length, .ref h_t_characters, .int R.2.1, .int t_first, .int t_second, .int t_sign], ob h_p2 2 [.int p2_vertices, .int R.2.2.1, .ref h_p2_firsts, .ref h_p2_seconds, .ref h_p2_signs], aI g h_p2_firsts 9 R.2.2.2.1, aI g h_p2_seconds 9 R.2.2.2.2.1, aI g h_p2_signs 9 R.2.2.2.2.2] (some (.int R.1)) := by
  refine ct_z (by decide +kernel) (Nat.le_of_ble_eq_true rfl) ?_
  intro p e s m args below meth c Q A ls cx hP hD hA hl hfin
  obtain ⟨hx, hb, hml, hown, hts, hK⟩ := id cx
  have hl : lv_has ls 3 [(0, .ref h_t), (1, .int p1), (2, .ref h_p2)] := hl
  have hS : va_S A s.heap s.heap [] := va_S.rf
  refine lv_iload_n hx hb dX1_acceptEnd_0 rfl (lv_at hl 1 rfl) ?_
  refine lv_bipush (v := (nI 59)) hx hb dX1_acceptEnd_1 (by decide) ?_
  refine lv_icmp_eq (tgt := 8) hx hb dX1_acceptEnd_3 (by decide) (fun c_3 => ?_) (fun c_3 => ?_)
  · have hM := if_t hM c_3
    refine lv_aload_n hx hb dX1_acceptEnd_8 rfl (lv_at hl 2 rfl) ?_
    refine lv_aload_n hx hb dX1_acceptEnd_9 rfl (lv_at hl 0 rfl) ?_
    refine w_get cx hP 0 1 3 rfl rfl (by decide) m_126 rfl rfl dX1_acceptEnd_10 ?_
    refine lv_aload_n hx hb dX1_acceptEnd_13 rfl (lv_at hl 0 rfl) ?_
    refine w_get cx hP 0 1 4 rfl rfl (by decide) m_127 rfl rfl dX1_acceptEnd_14 ?_
    refine lv_aload_n hx hb dX1_acceptEnd_17 rfl (lv_at hl 0 rfl) ?_
    refine w_get cx hP 0 1 5 rfl rfl (by decide) m_128 rfl rfl dX1_acceptEnd_18 ?_
    obtain ⟨q_21, hc_21, hM⟩ := bd_some hM
    refine w_callV cx hP hD hS hA (c_X2_append g l h_p2 h_p2_firsts h_p2_seconds h_p2_signs t_first t_second t_sign p2_vertices p2_edges a_p2_firsts a_p2_seconds a_p2_signs hc_21) [1, 2, 3, 4] rfl (by decide) rfl [ob h_t 1 [.int t_length, .ref h_t_characters, .int t_stage, .int t_first, .int t_second, .int t_sign], ob h_p2 2 [.int p2_vertices, .int q_21.1, .ref h_p2_firsts, .ref h_p2_seconds, .ref h_p2_signs], aI g h_p2_firsts 9 q_21.2.1, aI g h_p2_seconds 9 q_21.2.2.1, aI g h_p2_signs 9 q_21.2.2.2] rfl 1 2 rfl rfl yq_X2_append rfl m_352 m_290 m_291 m_43 m_292 ⟨Nat.le_of_ble_eq_true rfl, Nat.le_of_ble_eq_true rfl⟩ rfl rfl hl.1 (Nat.le_of_ble_eq_true rfl) dX1_acceptEnd_21 ⟨Nat.le_refl 0, Nat.le_refl 0⟩ rfl (fun H locs hP hD hS => ?_)
    refine lv_aload_n hx hb dX1_acceptEnd_24 rfl (lv_at hl 0 rfl) ?_
    refine lv_iconst (v := (nI 0)) hx hb dX1_acceptEnd_25 (by decide) ?_
    refine w_put cx hP hD hS 0 1 2 rfl rfl (by decide) m_125 rfl rfl rfl (Nat.le_of_ble_eq_true rfl) dX1_acceptEnd_26 [ob h_t 1 [.int t_length, .ref h_t_characters, .int (nI 0), .int t_first, .int t_second, .int t_sign], ob h_p2 2 [.int p2_vertices, .int q_21.1, .ref h_p2_firsts, .ref h_p2_seconds, .ref h_p2_signs], aI g h_p2_firsts 9 q_21.2.1, aI g h_p2_seconds 9 q_21.2.2.1, aI g h_p2_signs 9 q_21.2.2.2] rfl (fun H locs hP hD hS => ?_)
    refine lv_iconst (v := (nI 1)) hx hb dX1_acceptEnd_29 (by decide) ?_
    have hz : bq (nI 1) = true := by decide
    obtain rfl := Option.some.inj hM
    exact hfin 30 _ _ _ dX1_acceptEnd_30 hz hP hD hS
  · have hM := if_f hM c_3
    refine lv_iconst (v := (nI 0)) hx hb dX1_acceptEnd_6 (by decide) ?_
    have hz : bq (nI 0) = true := by decide
    obtain rfl := Option.some.inj hM
    exact hfin 7 _ _ _ dX1_acceptEnd_7 hz hP hD hS
noncomputable def f_X1_accept (p1 : Int32) (t_length : Int32) (t_stage : Int32) (t_first : Int32) (t_second : Int32) (t_sign : Int32) (p2_vertices : Int32) (p2_edges : Int32) (a_p2_firsts : Nat → Int32) (a_p2_seconds : Nat → Int32) (a_p2_signs : Nat → Int32) : Option (Int32 × Int32 × Int32 × Int32 × Int32 × Int32 × (Nat → Int32) × (Nat → Int32) × (Nat → Int32)) :=
  if t_stage = (nI 0) then bd (f_X1_acceptFirst (p1 - (nI 48)) t_length t_stage t_first t_second t_sign p2_vertices p2_edges) (fun (q_38 : Int32 × Int32 × Int32) => gd (bq q_38.1) (some (q_38.1, q_38.2.1, q_38.2.2, t_second, t_sign, p2_edges, a_p2_firsts, a_p2_seconds, a_p2_signs))) else if t_stage = (nI 1) then bd (f_X1_acceptSign p1 t_length t_stage t_first t_second t_sign) (fun (q_44 : Int32 × Int32 × Int32) => gd (bq q_44.1) (some (q_44.1, q_44.2.1, t_first, t_second, q_44.2.2, p2_edges, a_p2_firsts, a_p2_seconds, a_p2_signs))) else if t_stage = (nI 2) then bd (f_X1_acceptSecond (p1 - (nI 48)) t_length t_stage t_first t_second t_sign p2_vertices p2_edges) (fun (q_54 : Int32 × Int32 × Int32) => gd (bq q_54.1) (some (q_54.1, q_54.2.1, t_first, q_54.2.2, t_sign, p2_edges, a_p2_firsts, a_p2_seconds, a_p2_signs))) else bd (f_X1_acceptEnd p1 t_length t_stage t_first t_second t_sign p2_vertices p2_edges a_p2_firsts a_p2_seconds a_p2_signs) (fun (q_61 : Int32 × Int32 × Int32 × (Nat → Int32) × (Nat → Int32) × (Nat → Int32)) => gd (bq q_61.1) (some (q_61.1, q_61.2.1, t_first, t_second, t_sign, q_61.2.2.1, q_61.2.2.2.1, q_61.2.2.2.2.1, q_61.2.2.2.2.2)))
theorem yq_X1_accept : yq yX1_accept 2 := by unfold yq; decide +kernel
set_option maxHeartbeats 4000000 in
set_option maxRecDepth 100000 in
theorem c_X1_accept (g : GG) (l : Launch) (h_t : Nat) (h_t_characters : Nat) (h_p2 : Nat) (h_p2_firsts : Nat) (h_p2_seconds : Nat) (h_p2_signs : Nat) (p1 : Int32) (t_length : Int32) (t_stage : Int32) (t_first : Int32) (t_second : Int32) (t_sign : Int32) (p2_vertices : Int32) (p2_edges : Int32) (a_p2_firsts : Nat → Int32) (a_p2_seconds : Nat → Int32) (a_p2_signs : Nat → Int32) {R : Int32 × Int32 × Int32 × Int32 × Int32 × Int32 × (Nat → Int32) × (Nat → Int32) × (Nat → Int32)} (hM : f_X1_accept p1 t_length t_stage t_first t_second t_sign p2_vertices p2_edges a_p2_firsts a_p2_seconds a_p2_signs = some R) : CT g l yX1_accept cX1_accept 3 (some .boolean) 3 65 [.ref h_t, .int p1, .ref h_p2] [ob h_t 1 [.int t_length, .ref h_t_characters, .int t_stage, .int t_first, .int t_second, .int t_sign], ob h_p2 2 [.int p2_vertices, .int p2_edges, .ref h_p2_firsts, .ref h_p2_seconds, .ref h_p2_signs], aI g h_p2_firsts 9 a_p2_firsts, aI g h_p2_seconds 9 a_p2_seconds, aI g h_p2_signs 9 a_p2_signs] [ob h_t 1 [.int t_length, .ref h_t_characters, .int R.2.1, .int R.2.2.1, .int R.2.2.2.1, .int R.2.2.2.2.1], ob h_p2 2 [.int p2_vertices, .int R.2.2.2.2.2.1, .ref h_p2_firsts, .ref h_p2_seconds, .ref h_p2_signs], aI g h_p2_firsts 9 R.2.2.2.2.2.2.1, aI g h_p2_seconds 9 R.2.2.2.2.2.2.2.1, aI g h_p2_signs 9 R.2.2.2.2.2.2.2.2] (some (.int R.1)) := by
  refine ct_z (by decide +kernel) (Nat.le_of_ble_eq_true rfl) ?_
  intro p e s m args below meth c Q A ls cx hP hD hA hl hfin
  obtain ⟨hx, hb, hml, hown, hts, hK⟩ := id cx
  have hl : lv_has ls 3 [(0, .ref h_t), (1, .int p1), (2, .ref h_p2)] := hl
  have hS : va_S A s.heap s.heap [] := va_S.rf
  refine lv_aload_n hx hb dX1_accept_0 rfl (lv_at hl 0 rfl) ?_
  refine w_get cx hP 0 1 2 rfl rfl (by decide) m_125 rfl rfl dX1_accept_1 ?_
  by_cases c_4_0 : t_stage = (nI 0)
  · have hM := if_t hM c_4_0
    refine lv_tableIn (x := t_stage) (tgt := 32) hx hb dX1_accept_4 (off := 28) (by rw [c_4_0]; decide) (by rw [c_4_0]; decide) (by rw [c_4_0]; rfl) (by decide) ?_
    refine lv_aload_n hx hb dX1_accept_32 rfl (lv_at hl 0 rfl) ?_
    refine lv_iload_n hx hb dX1_accept_33 rfl (lv_at hl 1 rfl) ?_
    refine lv_bipush (v := (nI 48)) hx hb dX1_accept_34 (by decide) ?_
    refine lv_isub hx hb dX1_accept_36 ?_
    refine lv_aload_n hx hb dX1_accept_37 rfl (lv_at hl 2 rfl) ?_
    obtain ⟨q_38, hc_38, hM⟩ := bd_some hM
    refine w_callV cx hP hD hS hA (c_X1_acceptFirst g l h_t h_t_characters h_p2 h_p2_firsts h_p2_seconds h_p2_signs (p1 - (nI 48)) t_length t_stage t_first t_second t_sign p2_vertices p2_edges hc_38) [0, 1] rfl (by decide) rfl [ob h_t 1 [.int t_length, .ref h_t_characters, .int q_38.2.1, .int q_38.2.2, .int t_second, .int t_sign], ob h_p2 2 [.int p2_vertices, .int p2_edges, .ref h_p2_firsts, .ref h_p2_seconds, .ref h_p2_signs], aI g h_p2_firsts 9 a_p2_firsts, aI g h_p2_seconds 9 a_p2_seconds, aI g h_p2_signs 9 a_p2_signs] rfl 0 1 rfl rfl yq_X1_acceptFirst rfl m_334 m_336 m_2 m_45 m_337 ⟨Nat.le_of_ble_eq_true rfl, Nat.le_of_ble_eq_true rfl⟩ rfl rfl hl.1 (Nat.le_of_ble_eq_true rfl) dX1_accept_38 ⟨Nat.le_refl 0, Nat.le_refl 0⟩ rfl (fun H locs hP hD hS => ?_)
    obtain ⟨hz, hM⟩ := gd_some hM
    obtain rfl := Option.some.inj hM
    exact hfin 41 _ _ _ dX1_accept_41 hz hP hD hS
  have hM := if_f hM c_4_0
  by_cases c_4_1 : t_stage = (nI 1)
  · have hM := if_t hM c_4_1
    refine lv_tableIn (x := t_stage) (tgt := 42) hx hb dX1_accept_4 (off := 38) (by rw [c_4_1]; decide) (by rw [c_4_1]; decide) (by rw [c_4_1]; rfl) (by decide) ?_
    refine lv_aload_n hx hb dX1_accept_42 rfl (lv_at hl 0 rfl) ?_
    refine lv_iload_n hx hb dX1_accept_43 rfl (lv_at hl 1 rfl) ?_
    obtain ⟨q_44, hc_44, hM⟩ := bd_some hM
    refine w_callV cx hP hD hS hA (c_X1_acceptSign g l h_t h_t_characters p1 t_length t_stage t_first t_second t_sign hc_44) [0] rfl (by decide) rfl [ob h_t 1 [.int t_length, .ref h_t_characters, .int q_44.2.1, .int t_first, .int t_second, .int q_44.2.2], ob h_p2 2 [.int p2_vertices, .int p2_edges, .ref h_p2_firsts, .ref h_p2_seconds, .ref h_p2_signs], aI g h_p2_firsts 9 a_p2_firsts, aI g h_p2_seconds 9 a_p2_seconds, aI g h_p2_signs 9 a_p2_signs] rfl 0 1 rfl rfl yq_X1_acceptSign rfl m_340 m_342 m_3 m_45 m_343 ⟨Nat.le_of_ble_eq_true rfl, Nat.le_of_ble_eq_true rfl⟩ rfl rfl hl.1 (Nat.le_of_ble_eq_true rfl) dX1_accept_44 ⟨Nat.le_refl 0, Nat.le_refl 0⟩ rfl (fun H locs hP hD hS => ?_)
    obtain ⟨hz, hM⟩ := gd_some hM
    obtain rfl := Option.some.inj hM
    exact hfin 47 _ _ _ dX1_accept_47 hz hP hD hS
  have hM := if_f hM c_4_1
  by_cases c_4_2 : t_stage = (nI 2)
  · have hM := if_t hM c_4_2
    refine lv_tableIn (x := t_stage) (tgt := 48) hx hb dX1_accept_4 (off := 44) (by rw [c_4_2]; decide) (by rw [c_4_2]; decide) (by rw [c_4_2]; rfl) (by decide) ?_
    refine lv_aload_n hx hb dX1_accept_48 rfl (lv_at hl 0 rfl) ?_
    refine lv_iload_n hx hb dX1_accept_49 rfl (lv_at hl 1 rfl) ?_
    refine lv_bipush (v := (nI 48)) hx hb dX1_accept_50 (by decide) ?_
    refine lv_isub hx hb dX1_accept_52 ?_
    refine lv_aload_n hx hb dX1_accept_53 rfl (lv_at hl 2 rfl) ?_
    obtain ⟨q_54, hc_54, hM⟩ := bd_some hM
    refine w_callV cx hP hD hS hA (c_X1_acceptSecond g l h_t h_t_characters h_p2 h_p2_firsts h_p2_seconds h_p2_signs (p1 - (nI 48)) t_length t_stage t_first t_second t_sign p2_vertices p2_edges hc_54) [0, 1] rfl (by decide) rfl [ob h_t 1 [.int t_length, .ref h_t_characters, .int q_54.2.1, .int t_first, .int q_54.2.2, .int t_sign], ob h_p2 2 [.int p2_vertices, .int p2_edges, .ref h_p2_firsts, .ref h_p2_seconds, .ref h_p2_signs], aI g h_p2_firsts 9 a_p2_firsts, aI g h_p2_seconds 9 a_p2_seconds, aI g h_p2_signs 9 a_p2_signs] rfl 0 1 rfl rfl yq_X1_acceptSecond rfl m_344 m_346 m_4 m_45 m_347 ⟨Nat.le_of_ble_eq_true rfl, Nat.le_of_ble_eq_true rfl⟩ rfl rfl hl.1 (Nat.le_of_ble_eq_true rfl) dX1_accept_54 ⟨Nat.le_refl 0, Nat.le_refl 0⟩ rfl (fun H locs hP hD hS => ?_)
    obtain ⟨hz, hM⟩ := gd_some hM
    obtain rfl := Option.some.inj hM
    exact hfin 57 _ _ _ dX1_accept_57 hz hP hD hS
  have hM := if_f hM c_4_2
  refine lv_tableOut (x := t_stage) (tgt := 58) hx hb dX1_accept_4 (ts_out3 c_4_0 c_4_1 c_4_2) (by decide) ?_
  refine lv_aload_n hx hb dX1_accept_58 rfl (lv_at hl 0 rfl) ?_
  refine lv_iload_n hx hb dX1_accept_59 rfl (lv_at hl 1 rfl) ?_
  refine lv_aload_n hx hb dX1_accept_60 rfl (lv_at hl 2 rfl) ?_
  obtain ⟨q_61, hc_61, hM⟩ := bd_some hM
  refine w_callV cx hP hD hS hA (c_X1_acceptEnd g l h_t h_t_characters h_p2 h_p2_firsts h_p2_seconds h_p2_signs p1 t_length t_stage t_first t_second t_sign p2_vertices p2_edges a_p2_firsts a_p2_seconds a_p2_signs hc_61) [0, 1, 2, 3, 4] rfl (by decide) rfl [ob h_t 1 [.int t_length, .ref h_t_characters, .int q_61.2.1, .int t_first, .int t_second, .int t_sign], ob h_p2 2 [.int p2_vertices, .int q_61.2.2.1, .ref h_p2_firsts, .ref h_p2_seconds, .ref h_p2_signs], aI g h_p2_firsts 9 q_61.2.2.2.1, aI g h_p2_seconds 9 q_61.2.2.2.2.1, aI g h_p2_signs 9 q_61.2.2.2.2.2] rfl 0 1 rfl rfl yq_X1_acceptEnd rfl m_348 m_350 m_5 m_45 m_351 ⟨Nat.le_of_ble_eq_true rfl, Nat.le_of_ble_eq_true rfl⟩ rfl rfl hl.1 (Nat.le_of_ble_eq_true rfl) dX1_accept_61 ⟨Nat.le_refl 0, Nat.le_refl 0⟩ rfl (fun H locs hP hD hS => ?_)
  obtain ⟨hz, hM⟩ := gd_some hM
  obtain rfl := Option.some.inj hM
  exact hfin 64 _ _ _ dX1_accept_64 hz hP hD hS
noncomputable def b_X1_readInto_7 (t_length : Int32) (a_t_characters : Nat → Int32) (p1_vertices : Int32) : Int32 × Int32 × Int32 × Int32 × Int32 × Int32 × (Nat → Int32) × (Nat → Int32) × (Nat → Int32) → Option ((Int32 × Int32 × Int32 × Int32 × Int32 × Int32 × (Nat → Int32) × (Nat → Int32) × (Nat → Int32)) ⊕ ((Int32 × Int32 × Int32 × Int32 × Int32 × Int32 × (Nat → Int32) × (Nat → Int32) × (Nat → Int32)) ⊕ (Int32 × Int32 × Int32 × Int32 × Int32 × (Nat → Int32) × (Nat → Int32) × (Nat → Int32)))) := fun z_7 =>
  if t_length ≤ z_7.1 then some (.inr (.inr (z_7.2.1, z_7.2.2.1, z_7.2.2.2.1, z_7.2.2.2.2.1, z_7.2.2.2.2.2.1, z_7.2.2.2.2.2.2.1, z_7.2.2.2.2.2.2.2.1, z_7.2.2.2.2.2.2.2.2))) else gd (inb z_7.1 60) (nm (a_t_characters z_7.1.toNatClampNeg) (fun (x_21 : Int32) => if x_21 = (nI 32) then some (.inl (z_7.1 + (nI 1), z_7.2.1, z_7.2.2.1, z_7.2.2.2.1, z_7.2.2.2.2.1, z_7.2.2.2.2.2.1, z_7.2.2.2.2.2.2.1, z_7.2.2.2.2.2.2.2.1, z_7.2.2.2.2.2.2.2.2)) else bd (f_X1_accept x_21 t_length z_7.2.1 z_7.2.2.1 z_7.2.2.2.1 z_7.2.2.2.2.1 p1_vertices z_7.2.2.2.2.2.1 z_7.2.2.2.2.2.2.1 z_7.2.2.2.2.2.2.2.1 z_7.2.2.2.2.2.2.2.2) (fun (q_31 : Int32 × Int32 × Int32 × Int32 × Int32 × Int32 × (Nat → Int32) × (Nat → Int32) × (Nat → Int32)) => if q_31.1 = 0 then some (.inr (.inl (z_7.1, q_31.2.1, q_31.2.2.1, q_31.2.2.2.1, q_31.2.2.2.2.1, q_31.2.2.2.2.2.1, q_31.2.2.2.2.2.2.1, q_31.2.2.2.2.2.2.2.1, q_31.2.2.2.2.2.2.2.2))) else some (.inl (z_7.1 + (nI 1), q_31.2.1, q_31.2.2.1, q_31.2.2.2.1, q_31.2.2.2.2.1, q_31.2.2.2.2.2.1, q_31.2.2.2.2.2.2.1, q_31.2.2.2.2.2.2.2.1, q_31.2.2.2.2.2.2.2.2)))))
noncomputable def f_X1_readInto (t_length : Int32) (t_stage : Int32) (t_first : Int32) (t_second : Int32) (t_sign : Int32) (a_t_characters : Nat → Int32) (p1_vertices : Int32) (p1_edges : Int32) (a_p1_firsts : Nat → Int32) (a_p1_seconds : Nat → Int32) (a_p1_signs : Nat → Int32) : Option (Int32 × Int32 × Int32 × Int32 × Int32 × Int32 × (Nat → Int32) × (Nat → Int32) × (Nat → Int32)) :=
  bd (wh (b_X1_readInto_7 t_length a_t_characters p1_vertices) ((nI 0), (nI 0), t_first, t_second, t_sign, p1_edges, a_p1_firsts, a_p1_seconds, a_p1_signs)) (fun (r_7 : (Int32 × Int32 × Int32 × Int32 × Int32 × Int32 × (Nat → Int32) × (Nat → Int32) × (Nat → Int32)) ⊕ (Int32 × Int32 × Int32 × Int32 × Int32 × (Nat → Int32) × (Nat → Int32) × (Nat → Int32))) => ex2 r_7 (fun (r_7_0 : Int32 × Int32 × Int32 × Int32 × Int32 × Int32 × (Nat → Int32) × (Nat → Int32) × (Nat → Int32)) => some (r_7_0.1, r_7_0.2.1, r_7_0.2.2.1, r_7_0.2.2.2.1, r_7_0.2.2.2.2.1, r_7_0.2.2.2.2.2.1, r_7_0.2.2.2.2.2.2.1, r_7_0.2.2.2.2.2.2.2.1, r_7_0.2.2.2.2.2.2.2.2)) (fun (r_7_1 : Int32 × Int32 × Int32 × Int32 × Int32 × (Nat → Int32) × (Nat → Int32) × (Nat → Int32)) => if r_7_1.1 = 0 then some ((nI 4294967295), r_7_1.1, r_7_1.2.1, r_7_1.2.2.1, r_7_1.2.2.2.1, r_7_1.2.2.2.2.1, r_7_1.2.2.2.2.2.1, r_7_1.2.2.2.2.2.2.1, r_7_1.2.2.2.2.2.2.2) else some (t_length, r_7_1.1, r_7_1.2.1, r_7_1.2.2.1, r_7_1.2.2.2.1, r_7_1.2.2.2.2.1, r_7_1.2.2.2.2.2.1, r_7_1.2.2.2.2.2.2.1, r_7_1.2.2.2.2.2.2.2)))
theorem yq_X1_readInto : yq yX1_readInto 1 := by unfold yq; decide +kernel
set_option maxHeartbeats 4000000 in
set_option maxRecDepth 100000 in
theorem c_X1_readInto (g : GG) (l : Launch) (h_t : Nat) (h_t_characters : Nat) (h_p1 : Nat) (h_p1_firsts : Nat) (h_p1_seconds : Nat) (h_p1_signs : Nat) (t_length : Int32) (t_stage : Int32) (t_first : Int32) (t_second : Int32) (t_sign : Int32) (a_t_characters : Nat → Int32) (p1_vertices : Int32) (p1_edges : Int32) (a_p1_firsts : Nat → Int32) (a_p1_seconds : Nat → Int32) (a_p1_signs : Nat → Int32) {R : Int32 × Int32 × Int32 × Int32 × Int32 × Int32 × (Nat → Int32) × (Nat → Int32) × (Nat → Int32)} (hM : f_X1_readInto t_length t_stage t_first t_second t_sign a_t_characters p1_vertices p1_edges a_p1_firsts a_p1_seconds a_p1_signs = some R) : CT g l yX1_readInto cX1_readInto 4 (some .int) 4 87 [.ref h_t, .ref h_p1] [ob h_t 1 [.int t_length, .ref h_t_characters, .int t_stage, .int t_first, .int t_second, .int t_sign], aI g h_t_characters 60 a_t_characters, ob h_p1 2 [.int p1_vertices, .int p1_edges, .ref h_p1_firsts, .ref h_p1_seconds, .ref h_p1_signs], aI g h_p1_firsts 9 a_p1_firsts, aI g h_p1_seconds 9 a_p1_seconds, aI g h_p1_signs 9 a_p1_signs] [ob h_t 1 [.int t_length, .ref h_t_characters, .int R.2.1, .int R.2.2.1, .int R.2.2.2.1, .int R.2.2.2.2.1], aI g h_t_characters 60 a_t_characters, ob h_p1 2 [.int p1_vertices, .int R.2.2.2.2.2.1, .ref h_p1_firsts, .ref h_p1_seconds, .ref h_p1_signs], aI g h_p1_firsts 9 R.2.2.2.2.2.2.1, aI g h_p1_seconds 9 R.2.2.2.2.2.2.2.1, aI g h_p1_signs 9 R.2.2.2.2.2.2.2.2] (some (.int R.1)) := by
  refine ct_i (by decide +kernel) (Nat.le_of_ble_eq_true rfl) ?_
  intro p e s m args below meth c Q A ls cx hP hD hA hl hfin
  obtain ⟨hx, hb, hml, hown, hts, hK⟩ := id cx
  have hl : lv_has ls 4 [(0, .ref h_t), (1, .ref h_p1)] := hl
  have hS : va_S A s.heap s.heap [] := va_S.rf
  refine lv_aload_n hx hb dX1_readInto_0 rfl (lv_at hl 0 rfl) ?_
  refine lv_iconst (v := (nI 0)) hx hb dX1_readInto_1 (by decide) ?_
  refine w_put cx hP hD hS 0 1 2 rfl rfl (by decide) m_125 rfl rfl rfl (Nat.le_of_ble_eq_true rfl) dX1_readInto_2 [ob h_t 1 [.int t_length, .ref h_t_characters, .int (nI 0), .int t_first, .int t_second, .int t_sign], aI g h_t_characters 60 a_t_characters, ob h_p1 2 [.int p1_vertices, .int p1_edges, .ref h_p1_firsts, .ref h_p1_seconds, .ref h_p1_signs], aI g h_p1_firsts 9 a_p1_firsts, aI g h_p1_seconds 9 a_p1_seconds, aI g h_p1_signs 9 a_p1_signs] rfl (fun H locs hP hD hS => ?_)
  refine lv_iconst (v := (nI 0)) hx hb dX1_readInto_5 (by decide) ?_
  refine lv_istore_n (lv' := [(2, .int (nI 0)), (0, .ref h_t), (1, .ref h_p1)]) hx hb dX1_readInto_6 rfl hl (by decide) rfl (fun ls hl => ?_)
  obtain ⟨r_7, hw, hM⟩ := bd_some hM
  obtain ⟨n, hn⟩ := wh_some hw
  clear hw
  have hE_7_0 : ∀ (r_7_0 : Int32 × Int32 × Int32 × Int32 × Int32 × Int32 × (Nat → Int32) × (Nat → Int32) × (Nat → Int32)), r_7 = .inl r_7_0 → ∀ (H : Heap) (locs : List Loc) (ls : Array Slot), va_P (gD g) vwCl [ob h_t 1 [.int t_length, .ref h_t_characters, .int r_7_0.2.1, .int r_7_0.2.2.1, .int r_7_0.2.2.2.1, .int r_7_0.2.2.2.2.1], aI g h_t_characters 60 a_t_characters, ob h_p1 2 [.int p1_vertices, .int r_7_0.2.2.2.2.2.1, .ref h_p1_firsts, .ref h_p1_seconds, .ref h_p1_signs], aI g h_p1_firsts 9 r_7_0.2.2.2.2.2.2.1, aI g h_p1_seconds 9 r_7_0.2.2.2.2.2.2.2.1, aI g h_p1_signs 9 r_7_0.2.2.2.2.2.2.2.2] H → va_D A [ob h_t 1 [.int t_length, .ref h_t_characters, .int r_7_0.2.1, .int r_7_0.2.2.1, .int r_7_0.2.2.2.1, .int r_7_0.2.2.2.2.1], aI g h_t_characters 60 a_t_characters, ob h_p1 2 [.int p1_vertices, .int r_7_0.2.2.2.2.2.1, .ref h_p1_firsts, .ref h_p1_seconds, .ref h_p1_signs], aI g h_p1_firsts 9 r_7_0.2.2.2.2.2.2.1, aI g h_p1_seconds 9 r_7_0.2.2.2.2.2.2.2.1, aI g h_p1_signs 9 r_7_0.2.2.2.2.2.2.2.2] → va_S A s.heap H locs → lv_has ls 4 [(2, .int r_7_0.1)] → W p l e (rmv 4 87) s m args below meth c H locs 0 0 Q (F0 m 37 ls []) := by
    intro r_7_0 hr H locs ls hP hD hS hl
    have hM := ex2_0 hM hr
    refine lv_iload_n hx hb dX1_readInto_37 rfl (lv_at hl 0 rfl) ?_
    obtain rfl := Option.some.inj hM
    exact hfin 38 _ _ _ dX1_readInto_38 hP hD hS
  have hE_7_1 : ∀ (r_7_1 : Int32 × Int32 × Int32 × Int32 × Int32 × (Nat → Int32) × (Nat → Int32) × (Nat → Int32)), r_7 = .inr r_7_1 → ∀ (H : Heap) (locs : List Loc) (ls : Array Slot), va_P (gD g) vwCl [ob h_t 1 [.int t_length, .ref h_t_characters, .int r_7_1.1, .int r_7_1.2.1, .int r_7_1.2.2.1, .int r_7_1.2.2.2.1], aI g h_t_characters 60 a_t_characters, ob h_p1 2 [.int p1_vertices, .int r_7_1.2.2.2.2.1, .ref h_p1_firsts, .ref h_p1_seconds, .ref h_p1_signs], aI g h_p1_firsts 9 r_7_1.2.2.2.2.2.1, aI g h_p1_seconds 9 r_7_1.2.2.2.2.2.2.1, aI g h_p1_signs 9 r_7_1.2.2.2.2.2.2.2] H → va_D A [ob h_t 1 [.int t_length, .ref h_t_characters, .int r_7_1.1, .int r_7_1.2.1, .int r_7_1.2.2.1, .int r_7_1.2.2.2.1], aI g h_t_characters 60 a_t_characters, ob h_p1 2 [.int p1_vertices, .int r_7_1.2.2.2.2.1, .ref h_p1_firsts, .ref h_p1_seconds, .ref h_p1_signs], aI g h_p1_firsts 9 r_7_1.2.2.2.2.2.1, aI g h_p1_seconds 9 r_7_1.2.2.2.2.2.2.1, aI g h_p1_signs 9 r_7_1.2.2.2.2.2.2.2] → va_S A s.heap H locs → lv_has ls 4 [(0, .ref h_t)] → W p l e (rmv 4 87) s m args below meth c H locs 0 0 Q (F0 m 45 ls []) := by
    intro r_7_1 hr H locs ls hP hD hS hl
    have hM := ex2_1 hM hr
    refine lv_aload_n hx hb dX1_readInto_45 rfl (lv_at hl 0 rfl) ?_
    refine w_get cx hP 0 1 2 rfl rfl (by decide) m_125 rfl rfl dX1_readInto_46 ?_
    refine lv_if_ne (tgt := 56) hx hb dX1_readInto_49 (by decide) (fun c_49 => ?_) (fun c_49 => ?_)
    · have hM := if_f hM c_49
      refine lv_aload_n hx hb dX1_readInto_56 rfl (lv_at hl 0 rfl) ?_
      refine w_get cx hP 0 1 0 rfl rfl (by decide) m_122 rfl rfl dX1_readInto_57 ?_
      obtain rfl := Option.some.inj hM
      exact hfin 60 _ _ _ dX1_readInto_60 hP hD hS
    · have hM := if_t hM c_49
      refine lv_iconst (v := (nI 4294967295)) hx hb dX1_readInto_52 (by decide) ?_
      refine lv_goto (tgt := 60) hx hb dX1_readInto_53 (by decide) ?_
      obtain rfl := Option.some.inj hM
      exact hfin 60 _ _ _ dX1_readInto_60 hP hD hS
  clear hM
  have hL_7 : ∀ (n : Nat) (z_7 : Int32 × Int32 × Int32 × Int32 × Int32 × Int32 × (Nat → Int32) × (Nat → Int32) × (Nat → Int32)), it (b_X1_readInto_7 t_length a_t_characters p1_vertices) n z_7 = some r_7 → ∀ (H : Heap) (locs : List Loc) (ls : Array Slot), va_P (gD g) vwCl [ob h_t 1 [.int t_length, .ref h_t_characters, .int z_7.2.1, .int z_7.2.2.1, .int z_7.2.2.2.1, .int z_7.2.2.2.2.1], aI g h_t_characters 60 a_t_characters, ob h_p1 2 [.int p1_vertices, .int z_7.2.2.2.2.2.1, .ref h_p1_firsts, .ref h_p1_seconds, .ref h_p1_signs], aI g h_p1_firsts 9 z_7.2.2.2.2.2.2.1, aI g h_p1_seconds 9 z_7.2.2.2.2.2.2.2.1, aI g h_p1_signs 9 z_7.2.2.2.2.2.2.2.2] H → va_D A [ob h_t 1 [.int t_length, .ref h_t_characters, .int z_7.2.1, .int z_7.2.2.1, .int z_7.2.2.2.1, .int z_7.2.2.2.2.1], aI g h_t_characters 60 a_t_characters, ob h_p1 2 [.int p1_vertices, .int z_7.2.2.2.2.2.1, .ref h_p1_firsts, .ref h_p1_seconds, .ref h_p1_signs], aI g h_p1_firsts 9 z_7.2.2.2.2.2.2.1, aI g h_p1_seconds 9 z_7.2.2.2.2.2.2.2.1, aI g h_p1_signs 9 z_7.2.2.2.2.2.2.2.2] → va_S A s.heap H locs → lv_has ls 4 [(2, .int z_7.1), (0, .ref h_t), (1, .ref h_p1)] → W p l e (rmv 4 87) s m args below meth c H locs 0 0 Q (F0 m 7 ls []) := by
    intro n
    induction n with
    | zero => intro z_7 hn; exact (it_zero hn).elim
    | succ n ih =>
      intro z_7 hn H locs ls hP hD hS hl
      obtain ⟨x, hM, hX⟩ := it_succ hn
      clear hn
      refine lv_iload_n hx hb dX1_readInto_7 rfl (lv_at hl 0 rfl) ?_
      refine lv_aload_n hx hb dX1_readInto_8 rfl (lv_at hl 1 rfl) ?_
      refine w_get cx hP 0 1 0 rfl rfl (by decide) m_122 rfl rfl dX1_readInto_9 ?_
      refine lv_icmp_ge (tgt := 45) hx hb dX1_readInto_12 (by decide) (fun c_12 => ?_) (fun c_12 => ?_)
      · have hM := if_t hM c_12
        obtain rfl := Option.some.inj hM
        obtain rfl : _ = r_7 := hX
        exact hE_7_1 _ rfl _ _ _ hP hD hS (lv_sub hl [1] rfl)
      · have hM := if_f hM c_12
        refine lv_aload_n hx hb dX1_readInto_15 rfl (lv_at hl 1 rfl) ?_
        refine w_get cx hP 0 1 1 rfl rfl (by decide) m_124 rfl rfl dX1_readInto_16 ?_
        refine lv_iload_n hx hb dX1_readInto_19 rfl (lv_at hl 0 rfl) ?_
        obtain ⟨g_20, hM⟩ := gd_some hM
        refine w_iald cx hP 1 rfl g_20 dX1_readInto_20 ?_
        refine lv_topi (fun x_21 ex_21 => ?_)
        have hM := nm_some hM x_21 ex_21
        refine lv_istore_n (lv' := [(3, .int x_21), (2, .int z_7.1), (0, .ref h_t), (1, .ref h_p1)]) hx hb dX1_readInto_21 rfl hl (by decide) rfl (fun ls hl => ?_)
        refine lv_iload_n hx hb dX1_readInto_22 rfl (lv_at hl 0 rfl) ?_
        refine lv_bipush (v := (nI 32)) hx hb dX1_readInto_23 (by decide) ?_
        refine lv_icmp_eq (tgt := 39) hx hb dX1_readInto_25 (by decide) (fun c_25 => ?_) (fun c_25 => ?_)
        · have hM := if_t hM c_25
          refine lv_iinc (v := z_7.1 + (nI 1)) (lv' := [(2, .int (z_7.1 + (nI 1))), (3, .int x_21), (0, .ref h_t), (1, .ref h_p1)]) hx hb dX1_readInto_39 hl (k := 1) rfl (congrArg (fun q => z_7.1 + q) (show Int32.ofInt (1) = (nI 1) by decide)) (by decide) rfl (fun ls hl => ?_)
          refine lv_goto (tgt := 7) hx hb dX1_readInto_42 (by decide) ?_
          obtain rfl := Option.some.inj hM
          exact ih _ hX _ _ _ hP hD hS (lv_sub hl [0, 2, 3] rfl)
        · have hM := if_f hM c_25
          refine lv_aload_n hx hb dX1_readInto_28 rfl (lv_at hl 2 rfl) ?_
          refine lv_iload_n hx hb dX1_readInto_29 rfl (lv_at hl 0 rfl) ?_
          refine lv_aload_n hx hb dX1_readInto_30 rfl (lv_at hl 3 rfl) ?_
          obtain ⟨q_31, hc_31, hM⟩ := bd_some hM
          refine w_callV cx hP hD hS hA (c_X1_accept g l h_t h_t_characters h_p1 h_p1_firsts h_p1_seconds h_p1_signs x_21 t_length z_7.2.1 z_7.2.2.1 z_7.2.2.2.1 z_7.2.2.2.2.1 p1_vertices z_7.2.2.2.2.2.1 z_7.2.2.2.2.2.2.1 z_7.2.2.2.2.2.2.2.1 z_7.2.2.2.2.2.2.2.2 hc_31) [0, 2, 3, 4, 5] rfl (by decide) rfl [ob h_t 1 [.int t_length, .ref h_t_characters, .int q_31.2.1, .int q_31.2.2.1, .int q_31.2.2.2.1, .int q_31.2.2.2.2.1], aI g h_t_characters 60 a_t_characters, ob h_p1 2 [.int p1_vertices, .int q_31.2.2.2.2.2.1, .ref h_p1_firsts, .ref h_p1_seconds, .ref h_p1_signs], aI g h_p1_firsts 9 q_31.2.2.2.2.2.2.1, aI g h_p1_seconds 9 q_31.2.2.2.2.2.2.2.1, aI g h_p1_signs 9 q_31.2.2.2.2.2.2.2.2] rfl 0 1 rfl rfl yq_X1_accept rfl m_330 m_332 m_1 m_45 m_333 ⟨Nat.le_of_ble_eq_true rfl, Nat.le_of_ble_eq_true rfl⟩ rfl rfl hl.1 (Nat.le_of_ble_eq_true rfl) dX1_readInto_31 ⟨Nat.le_refl 0, Nat.le_refl 0⟩ rfl (fun H locs hP hD hS => ?_)
          refine lv_if_ne (tgt := 39) hx hb dX1_readInto_34 (by decide) (fun c_34 => ?_) (fun c_34 => ?_)
          · have hM := if_f hM c_34
            refine lv_iinc (v := z_7.1 + (nI 1)) (lv' := [(2, .int (z_7.1 + (nI 1))), (3, .int x_21), (0, .ref h_t), (1, .ref h_p1)]) hx hb dX1_readInto_39 hl (k := 1) rfl (congrArg (fun q => z_7.1 + q) (show Int32.ofInt (1) = (nI 1) by decide)) (by decide) rfl (fun ls hl => ?_)
            refine lv_goto (tgt := 7) hx hb dX1_readInto_42 (by decide) ?_
            obtain rfl := Option.some.inj hM
            exact ih _ hX _ _ _ hP hD hS (lv_sub hl [0, 2, 3] rfl)
          · have hM := if_t hM c_34
            obtain rfl := Option.some.inj hM
            obtain rfl : _ = r_7 := hX
            exact hE_7_0 _ rfl _ _ _ hP hD hS (lv_sub hl [1] rfl)
  exact hL_7 n _ hn _ _ _ hP hD hS (lv_sub hl [0, 1, 2] rfl)
noncomputable def b_X5_signOfWord_5 (p2 : Int32) (a_t_word : Nat → Int32) (a_p1_signs : Nat → Int32) : Int32 × Int32 → Option ((Int32 × Int32) ⊕ ((Int32))) := fun z_5 =>
  if p2 ≤ z_5.1 then some (.inr z_5.2) else gd (inb z_5.1 5) (gd (inb ((a_t_word z_5.1.toNatClampNeg) / (nI 2)) 9) (nm (z_5.2 * (a_p1_signs ((a_t_word z_5.1.toNatClampNeg) / (nI 2)).toNatClampNeg)) (fun (x_27 : Int32) => some (.inl (z_5.1 + (nI 1), x_27)))))
noncomputable def f_X5_signOfWord (p2 : Int32) (t_toSkip : Int32) (a_t_word : Nat → Int32) (p1_vertices : Int32) (p1_edges : Int32) (a_p1_signs : Nat → Int32) : Option (Int32) :=
  bd (wh (b_X5_signOfWord_5 p2 a_t_word a_p1_signs) ((nI 0), (nI 1))) (fun (r_5 : Int32) => some r_5)
theorem yq_X5_signOfWord : yq yX5_signOfWord 2 := by unfold yq; decide +kernel
set_option maxHeartbeats 4000000 in
set_option maxRecDepth 100000 in
theorem c_X5_signOfWord (g : GG) (l : Launch) (h_t : Nat) (h_t_word : Nat) (h_p1 : Nat) (h_p1_firsts : Nat) (h_p1_seconds : Nat) (h_p1_signs : Nat) (p2 : Int32) (t_toSkip : Int32) (a_t_word : Nat → Int32) (p1_vertices : Int32) (p1_edges : Int32) (a_p1_signs : Nat → Int32) {R : Int32} (hM : f_X5_signOfWord p2 t_toSkip a_t_word p1_vertices p1_edges a_p1_signs = some R) : CT g l yX5_signOfWord cX5_signOfWord 5 (some .int) 0 0 [.ref h_t, .ref h_p1, .int p2] [ob h_t 5 [.ref h_t_word, .int t_toSkip], aI g h_t_word 5 a_t_word, ob h_p1 2 [.int p1_vertices, .int p1_edges, .ref h_p1_firsts, .ref h_p1_seconds, .ref h_p1_signs], aI g h_p1_signs 9 a_p1_signs] [ob h_t 5 [.ref h_t_word, .int t_toSkip], aI g h_t_word 5 a_t_word, ob h_p1 2 [.int p1_vertices, .int p1_edges, .ref h_p1_firsts, .ref h_p1_seconds, .ref h_p1_signs], aI g h_p1_signs 9 a_p1_signs] (some (.int R)) := by
  refine ct_i (by decide +kernel) (Nat.le_of_ble_eq_true rfl) ?_
  intro p e s m args below meth c Q A ls cx hP hD hA hl hfin
  obtain ⟨hx, hb, hml, hown, hts, hK⟩ := id cx
  have hl : lv_has ls 5 [(0, .ref h_t), (1, .ref h_p1), (2, .int p2)] := hl
  have hS : va_S A s.heap s.heap [] := va_S.rf
  refine lv_iconst (v := (nI 1)) hx hb dX5_signOfWord_0 (by decide) ?_
  refine lv_istore_n (lv' := [(3, .int (nI 1)), (0, .ref h_t), (1, .ref h_p1), (2, .int p2)]) hx hb dX5_signOfWord_1 rfl hl (by decide) rfl (fun ls hl => ?_)
  refine lv_iconst (v := (nI 0)) hx hb dX5_signOfWord_2 (by decide) ?_
  refine lv_istore (lv' := [(4, .int (nI 0)), (3, .int (nI 1)), (0, .ref h_t), (1, .ref h_p1), (2, .int p2)]) hx hb dX5_signOfWord_3 hl (by decide) rfl (fun ls hl => ?_)
  obtain ⟨r_5, hw, hM⟩ := bd_some hM
  obtain ⟨n, hn⟩ := wh_some hw
  clear hw
  have hE_5_0 : ∀ (H : Heap) (locs : List Loc) (ls : Array Slot), va_P (gD g) vwCl [ob h_t 5 [.ref h_t_word, .int t_toSkip], aI g h_t_word 5 a_t_word, ob h_p1 2 [.int p1_vertices, .int p1_edges, .ref h_p1_firsts, .ref h_p1_seconds, .ref h_p1_signs], aI g h_p1_signs 9 a_p1_signs] H → va_D A [ob h_t 5 [.ref h_t_word, .int t_toSkip], aI g h_t_word 5 a_t_word, ob h_p1 2 [.int p1_vertices, .int p1_edges, .ref h_p1_firsts, .ref h_p1_seconds, .ref h_p1_signs], aI g h_p1_signs 9 a_p1_signs] → va_S A s.heap H locs → lv_has ls 5 [(3, .int r_5)] → W p l e (rmv 0 0) s m args below meth c H locs 0 0 Q (F0 m 34 ls []) := by
    intro H locs ls hP hD hS hl
    refine lv_iload_n hx hb dX5_signOfWord_34 rfl (lv_at hl 0 rfl) ?_
    obtain rfl := Option.some.inj hM
    exact hfin 35 _ _ _ dX5_signOfWord_35 hP hD hS
  clear hM
  have hL_5 : ∀ (n : Nat) (z_5 : Int32 × Int32), it (b_X5_signOfWord_5 p2 a_t_word a_p1_signs) n z_5 = some r_5 → ∀ (H : Heap) (locs : List Loc) (ls : Array Slot), va_P (gD g) vwCl [ob h_t 5 [.ref h_t_word, .int t_toSkip], aI g h_t_word 5 a_t_word, ob h_p1 2 [.int p1_vertices, .int p1_edges, .ref h_p1_firsts, .ref h_p1_seconds, .ref h_p1_signs], aI g h_p1_signs 9 a_p1_signs] H → va_D A [ob h_t 5 [.ref h_t_word, .int t_toSkip], aI g h_t_word 5 a_t_word, ob h_p1 2 [.int p1_vertices, .int p1_edges, .ref h_p1_firsts, .ref h_p1_seconds, .ref h_p1_signs], aI g h_p1_signs 9 a_p1_signs] → va_S A s.heap H locs → lv_has ls 5 [(4, .int z_5.1), (3, .int z_5.2), (0, .ref h_t), (1, .ref h_p1), (2, .int p2)] → W p l e (rmv 0 0) s m args below meth c H locs 0 0 Q (F0 m 5 ls []) := by
    intro n
    induction n with
    | zero => intro z_5 hn; exact (it_zero hn).elim
    | succ n ih =>
      intro z_5 hn H locs ls hP hD hS hl
      obtain ⟨x, hM, hX⟩ := it_succ hn
      clear hn
      refine lv_iload hx hb dX5_signOfWord_5 (lv_at hl 0 rfl) ?_
      refine lv_iload_n hx hb dX5_signOfWord_7 rfl (lv_at hl 4 rfl) ?_
      refine lv_icmp_ge (tgt := 34) hx hb dX5_signOfWord_8 (by decide) (fun c_8 => ?_) (fun c_8 => ?_)
      · have hM := if_t hM c_8
        obtain rfl := Option.some.inj hM
        obtain rfl : _ = r_5 := hX
        exact hE_5_0 _ _ _ hP hD hS (lv_sub hl [1] rfl)
      · have hM := if_f hM c_8
        refine lv_iload_n hx hb dX5_signOfWord_11 rfl (lv_at hl 1 rfl) ?_
        refine lv_aload_n hx hb dX5_signOfWord_12 rfl (lv_at hl 3 rfl) ?_
        refine w_getN cx hP 2 2 4 rfl rfl (by decide) n_83 rfl rfl dX5_signOfWord_13 ?_
        refine lv_aload_n hx hb dX5_signOfWord_16 rfl (lv_at hl 2 rfl) ?_
        refine w_get cx hP 0 5 0 rfl rfl (by decide) m_191 rfl rfl dX5_signOfWord_17 ?_
        refine lv_iload hx hb dX5_signOfWord_20 (lv_at hl 0 rfl) ?_
        obtain ⟨g_22, hM⟩ := gd_some hM
        refine w_iald cx hP 1 rfl g_22 dX5_signOfWord_22 ?_
        refine lv_iconst (v := (nI 2)) hx hb dX5_signOfWord_23 (by decide) ?_
        refine lv_idiv hx hb dX5_signOfWord_24 (by decide) ?_
        obtain ⟨g_25, hM⟩ := gd_some hM
        refine w_iald cx hP 3 rfl g_25 dX5_signOfWord_25 ?_
        refine lv_imul hx hb dX5_signOfWord_26 ?_
        refine lv_topi (fun x_27 ex_27 => ?_)
        have hM := nm_some hM x_27 ex_27
        refine lv_istore_n (lv' := [(3, .int x_27), (4, .int z_5.1), (0, .ref h_t), (1, .ref h_p1), (2, .int p2)]) hx hb dX5_signOfWord_27 rfl hl (by decide) rfl (fun ls hl => ?_)
        refine lv_iinc (v := z_5.1 + (nI 1)) (lv' := [(4, .int (z_5.1 + (nI 1))), (3, .int x_27), (0, .ref h_t), (1, .ref h_p1), (2, .int p2)]) hx hb dX5_signOfWord_28 hl (k := 1) rfl (congrArg (fun q => z_5.1 + q) (show Int32.ofInt (1) = (nI 1) by decide)) (by decide) rfl (fun ls hl => ?_)
        refine lv_goto (tgt := 5) hx hb dX5_signOfWord_31 (by decide) ?_
        obtain rfl := Option.some.inj hM
        exact ih _ hX _ _ _ hP hD hS (lv_sub hl [0, 1, 2, 3, 4] rfl)
  exact hL_5 n _ hn _ _ _ hP hD hS (lv_sub hl [0, 1, 2, 3, 4] rfl)
noncomputable def f_X5_isWanted (p2 : Int32) (p3 : Int32) (t_toSkip : Int32) (a_t_word : Nat → Int32) (p1_vertices : Int32) (p1_edges : Int32) (a_p1_firsts : Nat → Int32) (a_p1_seconds : Nat → Int32) : Option (Int32 × Int32) :=
  if p3 = p2 then gd (inb (p2 - (nI 1)) 5) (gd (inb (nI 0) 5) (bd (f_X2_leadsOn (a_t_word (p2 - (nI 1)).toNatClampNeg) (a_t_word (nI 0).toNatClampNeg) p1_vertices p1_edges a_p1_firsts a_p1_seconds) (fun (q_20 : Int32) => if q_20 = 0 then some ((nI 0), t_toSkip) else if t_toSkip ≤ 0 then some ((nI 1), t_toSkip) else some ((nI 0), (t_toSkip - (nI 1)))))) else some ((nI 0), t_toSkip)
theorem yq_X5_isWanted : yq yX5_isWanted 3 := by unfold yq; decide +kernel
set_option maxHeartbeats 4000000 in
set_option maxRecDepth 100000 in
theorem c_X5_isWanted (g : GG) (l : Launch) (h_t : Nat) (h_t_word : Nat) (h_p1 : Nat) (h_p1_firsts : Nat) (h_p1_seconds : Nat) (h_p1_signs : Nat) (p2 : Int32) (p3 : Int32) (t_toSkip : Int32) (a_t_word : Nat → Int32) (p1_vertices : Int32) (p1_edges : Int32) (a_p1_firsts : Nat → Int32) (a_p1_seconds : Nat → Int32) {R : Int32 × Int32} (hM : f_X5_isWanted p2 p3 t_toSkip a_t_word p1_vertices p1_edges a_p1_firsts a_p1_seconds = some R) : CT g l yX5_isWanted cX5_isWanted 4 (some .boolean) 2 43 [.ref h_t, .ref h_p1, .int p2, .int p3] [ob h_t 5 [.ref h_t_word, .int t_toSkip], aI g h_t_word 5 a_t_word, ob h_p1 2 [.int p1_vertices, .int p1_edges, .ref h_p1_firsts, .ref h_p1_seconds, .ref h_p1_signs], aI g h_p1_firsts 9 a_p1_firsts, aI g h_p1_seconds 9 a_p1_seconds] [ob h_t 5 [.ref h_t_word, .int R.2], aI g h_t_word 5 a_t_word, ob h_p1 2 [.int p1_vertices, .int p1_edges, .ref h_p1_firsts, .ref h_p1_seconds, .ref h_p1_signs], aI g h_p1_firsts 9 a_p1_firsts, aI g h_p1_seconds 9 a_p1_seconds] (some (.int R.1)) := by
  refine ct_z (by decide +kernel) (Nat.le_of_ble_eq_true rfl) ?_
  intro p e s m args below meth c Q A ls cx hP hD hA hl hfin
  obtain ⟨hx, hb, hml, hown, hts, hK⟩ := id cx
  have hl : lv_has ls 4 [(0, .ref h_t), (1, .ref h_p1), (2, .int p2), (3, .int p3)] := hl
  have hS : va_S A s.heap s.heap [] := va_S.rf
  refine lv_iload_n hx hb dX5_isWanted_0 rfl (lv_at hl 3 rfl) ?_
  refine lv_iload_n hx hb dX5_isWanted_1 rfl (lv_at hl 2 rfl) ?_
  refine lv_icmp_ne (tgt := 26) hx hb dX5_isWanted_2 (by decide) (fun c_2 => ?_) (fun c_2 => ?_)
  · have hM := if_f hM c_2
    refine lv_iconst (v := (nI 0)) hx hb dX5_isWanted_26 (by decide) ?_
    have hz : bq (nI 0) = true := by decide
    obtain rfl := Option.some.inj hM
    exact hfin 27 _ _ _ dX5_isWanted_27 hz hP hD hS
  · have hM := if_t hM c_2
    refine lv_aload_n hx hb dX5_isWanted_5 rfl (lv_at hl 1 rfl) ?_
    refine lv_aload_n hx hb dX5_isWanted_6 rfl (lv_at hl 0 rfl) ?_
    refine w_get cx hP 0 5 0 rfl rfl (by decide) m_191 rfl rfl dX5_isWanted_7 ?_
    refine lv_iload_n hx hb dX5_isWanted_10 rfl (lv_at hl 2 rfl) ?_
    refine lv_iconst (v := (nI 1)) hx hb dX5_isWanted_11 (by decide) ?_
    refine lv_isub hx hb dX5_isWanted_12 ?_
    obtain ⟨g_13, hM⟩ := gd_some hM
    refine w_iald cx hP 1 rfl g_13 dX5_isWanted_13 ?_
    refine lv_aload_n hx hb dX5_isWanted_14 rfl (lv_at hl 0 rfl) ?_
    refine w_get cx hP 0 5 0 rfl rfl (by decide) m_191 rfl rfl dX5_isWanted_15 ?_
    refine lv_iconst (v := (nI 0)) hx hb dX5_isWanted_18 (by decide) ?_
    obtain ⟨g_19, hM⟩ := gd_some hM
    refine w_iald cx hP 1 rfl g_19 dX5_isWanted_19 ?_
    obtain ⟨q_20, hc_20, hM⟩ := bd_some hM
    refine w_callV cx hP hD hS hA (c_X2_leadsOn g l h_p1 h_p1_firsts h_p1_seconds h_p1_signs (a_t_word (p2 - (nI 1)).toNatClampNeg) (a_t_word (nI 0).toNatClampNeg) p1_vertices p1_edges a_p1_firsts a_p1_seconds hc_20) [2, 3, 4] rfl (by decide) rfl [ob h_t 5 [.ref h_t_word, .int t_toSkip], aI g h_t_word 5 a_t_word, ob h_p1 2 [.int p1_vertices, .int p1_edges, .ref h_p1_firsts, .ref h_p1_seconds, .ref h_p1_signs], aI g h_p1_firsts 9 a_p1_firsts, aI g h_p1_seconds 9 a_p1_seconds] rfl 2 2 rfl rfl yq_X2_leadsOn rfl m_523 m_387 m_388 m_43 m_389 ⟨Nat.le_of_ble_eq_true rfl, Nat.le_of_ble_eq_true rfl⟩ rfl rfl hl.1 (Nat.le_of_ble_eq_true rfl) dX5_isWanted_20 ⟨Nat.le_refl 0, Nat.le_refl 0⟩ rfl (fun H locs hP hD hS => ?_)
    refine lv_if_ne (tgt := 28) hx hb dX5_isWanted_23 (by decide) (fun c_23 => ?_) (fun c_23 => ?_)
    · have hM := if_f hM c_23
      refine lv_aload_n hx hb dX5_isWanted_28 rfl (lv_at hl 0 rfl) ?_
      refine w_get cx hP 0 5 1 rfl rfl (by decide) m_193 rfl rfl dX5_isWanted_29 ?_
      refine lv_if_le (tgt := 47) hx hb dX5_isWanted_32 (by decide) (fun c_32 => ?_) (fun c_32 => ?_)
      · have hM := if_t hM c_32
        refine lv_iconst (v := (nI 1)) hx hb dX5_isWanted_47 (by decide) ?_
        have hz : bq (nI 1) = true := by decide
        obtain rfl := Option.some.inj hM
        exact hfin 48 _ _ _ dX5_isWanted_48 hz hP hD hS
      · have hM := if_f hM c_32
        refine lv_aload_n hx hb dX5_isWanted_35 rfl (lv_at hl 0 rfl) ?_
        refine lv_dup hx hb dX5_isWanted_36 rfl ?_
        refine w_get cx hP 0 5 1 rfl rfl (by decide) m_193 rfl rfl dX5_isWanted_37 ?_
        refine lv_iconst (v := (nI 1)) hx hb dX5_isWanted_40 (by decide) ?_
        refine lv_isub hx hb dX5_isWanted_41 ?_
        refine w_put cx hP hD hS 0 5 1 rfl rfl (by decide) m_193 rfl rfl rfl (Nat.le_of_ble_eq_true rfl) dX5_isWanted_42 [ob h_t 5 [.ref h_t_word, .int (t_toSkip - (nI 1))], aI g h_t_word 5 a_t_word, ob h_p1 2 [.int p1_vertices, .int p1_edges, .ref h_p1_firsts, .ref h_p1_seconds, .ref h_p1_signs], aI g h_p1_firsts 9 a_p1_firsts, aI g h_p1_seconds 9 a_p1_seconds] rfl (fun H locs hP hD hS => ?_)
        refine lv_iconst (v := (nI 0)) hx hb dX5_isWanted_45 (by decide) ?_
        have hz : bq (nI 0) = true := by decide
        obtain rfl := Option.some.inj hM
        exact hfin 46 _ _ _ dX5_isWanted_46 hz hP hD hS
    · have hM := if_t hM c_23
      refine lv_iconst (v := (nI 0)) hx hb dX5_isWanted_26 (by decide) ?_
      have hz : bq (nI 0) = true := by decide
      obtain rfl := Option.some.inj hM
      exact hfin 27 _ _ _ dX5_isWanted_27 hz hP hD hS
end
