def tbG : List Cond := lw_tbl.filter goodWord
theorem tbG_in {w : Cond} (h : w ∈ lw_tbl) (hg : goodWord w = true) : w ∈ tbG := List.mem_filter.mpr ⟨h, hg⟩
theorem tbG_sub {w : Cond} (h : w ∈ tbG) : w ∈ lw_tbl := (List.mem_filter.mp h).1
theorem tbG_good {w : Cond} (h : w ∈ tbG) : goodWord w = true := (List.mem_filter.mp h).2
theorem m_0 : Cond.selects "IharaZeta$History" ⟨"IharaZeta$History","discardOldest","()V"⟩ ⟨"IharaZeta$History","discardOldest","()V"⟩ ∈ tbG := tbG_in (List.mem_of_getElem? (i := 0) (by decide +kernel)) rfl
theorem m_1 : Cond.selects "IharaZeta$EdgeText" ⟨"IharaZeta$EdgeText","accept","(ILIharaZeta$Graph;)Z"⟩ ⟨"IharaZeta$EdgeText","accept","(ILIharaZeta$Graph;)Z"⟩ ∈ tbG := tbG_in (List.mem_of_getElem? (i := 1) (by decide +kernel)) rfl
theorem m_2 : Cond.selects "IharaZeta$EdgeText" ⟨"IharaZeta$EdgeText","acceptFirst","(ILIharaZeta$Graph;)Z"⟩ ⟨"IharaZeta$EdgeText","acceptFirst","(ILIharaZeta$Graph;)Z"⟩ ∈ tbG := tbG_in (List.mem_of_getElem? (i := 2) (by decide +kernel)) rfl
theorem m_3 : Cond.selects "IharaZeta$EdgeText" ⟨"IharaZeta$EdgeText","acceptSign","(I)Z"⟩ ⟨"IharaZeta$EdgeText","acceptSign","(I)Z"⟩ ∈ tbG := tbG_in (List.mem_of_getElem? (i := 3) (by decide +kernel)) rfl
theorem m_4 : Cond.selects "IharaZeta$EdgeText" ⟨"IharaZeta$EdgeText","acceptSecond","(ILIharaZeta$Graph;)Z"⟩ ⟨"IharaZeta$EdgeText","acceptSecond","(ILIharaZeta$Graph;)Z"⟩ ∈ tbG := tbG_in (List.mem_of_getElem? (i := 4) (by decide +kernel)) rfl
theorem m_5 : Cond.selects "IharaZeta$EdgeText" ⟨"IharaZeta$EdgeText","acceptEnd","(ILIharaZeta$Graph;)Z"⟩ ⟨"IharaZeta$EdgeText","acceptEnd","(ILIharaZeta$Graph;)Z"⟩ ∈ tbG := tbG_in (List.mem_of_getElem? (i := 5) (by decide +kernel)) rfl
theorem m_6 : Cond.selects "IharaZeta$WalkCounter" ⟨"IharaZeta$WalkCounter","addReturns","(LIharaZeta$Graph;Z[J)V"⟩ ⟨"IharaZeta$WalkCounter","addReturns","(LIharaZeta$Graph;Z[J)V"⟩ ∈ tbG := tbG_in (List.mem_of_getElem? (i := 6) (by decide +kernel)) rfl
theorem m_7 : Cond.selects "IharaZeta$WalkCounter" ⟨"IharaZeta$WalkCounter","goOn","(LIharaZeta$Graph;Z)V"⟩ ⟨"IharaZeta$WalkCounter","goOn","(LIharaZeta$Graph;Z)V"⟩ ∈ tbG := tbG_in (List.mem_of_getElem? (i := 7) (by decide +kernel)) rfl
theorem m_8 : Cond.selects "IharaZeta$Grouping" ⟨"IharaZeta$Grouping","separate","()V"⟩ ⟨"IharaZeta$Grouping","separate","()V"⟩ ∈ tbG := tbG_in (List.mem_of_getElem? (i := 8) (by decide +kernel)) rfl
theorem m_9 : Cond.selects "IharaZeta$Grouping" ⟨"IharaZeta$Grouping","unite","(LIharaZeta$Graph;I)Z"⟩ ⟨"IharaZeta$Grouping","unite","(LIharaZeta$Graph;I)Z"⟩ ∈ tbG := tbG_in (List.mem_of_getElem? (i := 9) (by decide +kernel)) rfl
theorem m_10 : Cond.selects "IharaZeta$Grouping" ⟨"IharaZeta$Grouping","turnFor","(LIharaZeta$Graph;I)I"⟩ ⟨"IharaZeta$Grouping","turnFor","(LIharaZeta$Graph;I)I"⟩ ∈ tbG := tbG_in (List.mem_of_getElem? (i := 10) (by decide +kernel)) rfl
theorem m_11 : Cond.selects "IharaZeta$PrimeSearch" ⟨"IharaZeta$PrimeSearch","extend","(LIharaZeta$Graph;III)Z"⟩ ⟨"IharaZeta$PrimeSearch","extend","(LIharaZeta$Graph;III)Z"⟩ ∈ tbG := tbG_in (List.mem_of_getElem? (i := 11) (by decide +kernel)) rfl
theorem m_12 : Cond.selects "IharaZeta$PrimeSearch" ⟨"IharaZeta$PrimeSearch","isWanted","(LIharaZeta$Graph;II)Z"⟩ ⟨"IharaZeta$PrimeSearch","isWanted","(LIharaZeta$Graph;II)Z"⟩ ∈ tbG := tbG_in (List.mem_of_getElem? (i := 12) (by decide +kernel)) rfl
theorem m_13 : Cond.selects "IharaZeta" ⟨"IharaZeta","makeEdgePolynomial","()V"⟩ ⟨"IharaZeta","makeEdgePolynomial","()V"⟩ ∈ tbG := tbG_in (List.mem_of_getElem? (i := 13) (by decide +kernel)) rfl
theorem m_14 : Cond.selects "IharaZeta$VertexPolynomial" ⟨"IharaZeta$VertexPolynomial","makeMinor","(LIharaZeta$Graph;I)V"⟩ ⟨"IharaZeta$VertexPolynomial","makeMinor","(LIharaZeta$Graph;I)V"⟩ ∈ tbG := tbG_in (List.mem_of_getElem? (i := 14) (by decide +kernel)) rfl
theorem m_15 : Cond.selects "IharaZeta$Grouping" ⟨"IharaZeta$Grouping","isForest","(LIharaZeta$Graph;I)Z"⟩ ⟨"IharaZeta$Grouping","isForest","(LIharaZeta$Graph;I)Z"⟩ ∈ tbG := tbG_in (List.mem_of_getElem? (i := 15) (by decide +kernel)) rfl
theorem m_16 : Cond.initialized "IharaZetaLaw" ∈ tbG := tbG_in (List.mem_of_getElem? (i := 16) (by decide +kernel)) rfl
theorem m_17 : Cond.initialized "IharaZeta" ∈ tbG := tbG_in (List.mem_of_getElem? (i := 17) (by decide +kernel)) rfl
theorem m_18 : Cond.initialized "IharaZeta$Graph" ∈ tbG := tbG_in (List.mem_of_getElem? (i := 18) (by decide +kernel)) rfl
theorem m_19 : Cond.initialized "IharaZeta$History" ∈ tbG := tbG_in (List.mem_of_getElem? (i := 19) (by decide +kernel)) rfl
theorem m_20 : Cond.initialized "IharaZeta$EdgeText" ∈ tbG := tbG_in (List.mem_of_getElem? (i := 20) (by decide +kernel)) rfl
theorem m_21 : Cond.initialized "IharaZeta$Grouping" ∈ tbG := tbG_in (List.mem_of_getElem? (i := 21) (by decide +kernel)) rfl
theorem m_22 : Cond.initialized "IharaZeta$WalkCounter" ∈ tbG := tbG_in (List.mem_of_getElem? (i := 22) (by decide +kernel)) rfl
theorem m_23 : Cond.initialized "IharaZeta$PrimeSearch" ∈ tbG := tbG_in (List.mem_of_getElem? (i := 23) (by decide +kernel)) rfl
theorem m_24 : Cond.initialized "IharaZeta$EdgePolynomial" ∈ tbG := tbG_in (List.mem_of_getElem? (i := 24) (by decide +kernel)) rfl
theorem m_25 : Cond.initialized "IharaZeta$VertexPolynomial" ∈ tbG := tbG_in (List.mem_of_getElem? (i := 25) (by decide +kernel)) rfl
theorem m_26 : Cond.initialized "java/util/Arrays" ∈ tbG := tbG_in (List.mem_of_getElem? (i := 26) (by decide +kernel)) rfl
theorem m_27 : Cond.initialized "java/lang/Integer" ∈ tbG := tbG_in (List.mem_of_getElem? (i := 27) (by decide +kernel)) rfl
theorem m_28 : Cond.initialized "java/lang/System" ∈ tbG := tbG_in (List.mem_of_getElem? (i := 28) (by decide +kernel)) rfl
theorem m_29 : Cond.classLink "IharaZetaLaw" 10 "IharaZeta" ∈ tbG := tbG_in (List.mem_of_getElem? (i := 29) (by decide +kernel)) rfl
theorem m_30 : Cond.instantiable "IharaZeta" 9 ∈ tbG := tbG_in (List.mem_of_getElem? (i := 30) (by decide +kernel)) rfl
theorem m_31 : Cond.methodLink "IharaZetaLaw" 198 ⟨"IharaZeta","<init>","()V"⟩ ∈ tbG := tbG_in (List.mem_of_getElem? (i := 31) (by decide +kernel)) rfl
theorem m_32 : Cond.instanceMethod ⟨"IharaZeta","<init>","()V"⟩ ∈ tbG := tbG_in (List.mem_of_getElem? (i := 32) (by decide +kernel)) rfl
theorem m_33 : Cond.code ⟨"IharaZeta","<init>","()V"⟩ prog_1_method_1_code 1 (none : Option FieldType) ∈ tbG := tbG_in (List.mem_of_getElem? (i := 33) (by decide +kernel)) rfl
theorem m_34 : Cond.methodLink "IharaZeta" 3 ⟨"java/lang/Object","<init>","()V"⟩ ∈ tbG := tbG_in (List.mem_of_getElem? (i := 34) (by decide +kernel)) rfl
theorem m_35 : Cond.instanceMethod ⟨"java/lang/Object","<init>","()V"⟩ ∈ tbG := tbG_in (List.mem_of_getElem? (i := 35) (by decide +kernel)) rfl
theorem m_36 : Cond.code ⟨"java/lang/Object","<init>","()V"⟩ object_method_1_code 1 (none : Option FieldType) ∈ tbG := tbG_in (List.mem_of_getElem? (i := 36) (by decide +kernel)) rfl
theorem m_37 : Cond.classLink "IharaZeta" 9 "IharaZeta$Graph" ∈ tbG := tbG_in (List.mem_of_getElem? (i := 37) (by decide +kernel)) rfl
theorem m_38 : Cond.instantiable "IharaZeta$Graph" 5 ∈ tbG := tbG_in (List.mem_of_getElem? (i := 38) (by decide +kernel)) rfl
theorem m_39 : Cond.methodLinkNest "IharaZeta" 11 ⟨"IharaZeta$Graph","<init>","()V"⟩ "IharaZeta" ∈ lw_tbl := List.mem_of_getElem? (i := 39) (by decide +kernel)
theorem m_40 : Cond.instanceMethod ⟨"IharaZeta$Graph","<init>","()V"⟩ ∈ tbG := tbG_in (List.mem_of_getElem? (i := 40) (by decide +kernel)) rfl
theorem m_41 : Cond.code ⟨"IharaZeta$Graph","<init>","()V"⟩ prog_4_method_1_code 1 (none : Option FieldType) ∈ tbG := tbG_in (List.mem_of_getElem? (i := 41) (by decide +kernel)) rfl
theorem m_42 : Cond.methodLink "IharaZeta$Graph" 3 ⟨"java/lang/Object","<init>","()V"⟩ ∈ tbG := tbG_in (List.mem_of_getElem? (i := 42) (by decide +kernel)) rfl
theorem m_43 : Cond.fieldLink "IharaZeta$Graph" 9 "IharaZeta$Graph" "vertices" "I" ∈ tbG := tbG_in (List.mem_of_getElem? (i := 43) (by decide +kernel)) rfl
theorem m_44 : Cond.fieldLinkNest "IharaZeta$Grouping" 21 "IharaZeta$Graph" "vertices" "I" "IharaZeta" ∈ lw_tbl := List.mem_of_getElem? (i := 44) (by decide +kernel)
theorem m_45 : Cond.fieldLinkNest "IharaZeta" 70 "IharaZeta$Graph" "vertices" "I" "IharaZeta" ∈ lw_tbl := List.mem_of_getElem? (i := 45) (by decide +kernel)
theorem m_46 : Cond.fieldLinkNest "IharaZeta$VertexPolynomial" 26 "IharaZeta$Graph" "vertices" "I" "IharaZeta" ∈ lw_tbl := List.mem_of_getElem? (i := 46) (by decide +kernel)
theorem m_47 : Cond.fieldLink "IharaZeta$Graph" 15 "IharaZeta$Graph" "edges" "I" ∈ tbG := tbG_in (List.mem_of_getElem? (i := 47) (by decide +kernel)) rfl
theorem m_48 : Cond.fieldLinkNest "IharaZeta$Grouping" 27 "IharaZeta$Graph" "edges" "I" "IharaZeta" ∈ lw_tbl := List.mem_of_getElem? (i := 48) (by decide +kernel)
theorem m_49 : Cond.fieldLinkNest "IharaZeta" 94 "IharaZeta$Graph" "edges" "I" "IharaZeta" ∈ lw_tbl := List.mem_of_getElem? (i := 49) (by decide +kernel)
theorem m_50 : Cond.fieldLinkNest "IharaZeta$PrimeSearch" 32 "IharaZeta$Graph" "edges" "I" "IharaZeta" ∈ lw_tbl := List.mem_of_getElem? (i := 50) (by decide +kernel)
theorem m_51 : Cond.fieldLinkNest "IharaZeta$WalkCounter" 50 "IharaZeta$Graph" "edges" "I" "IharaZeta" ∈ lw_tbl := List.mem_of_getElem? (i := 51) (by decide +kernel)
theorem m_52 : Cond.fieldLink "IharaZeta$Graph" 18 "IharaZeta$Graph" "firsts" "[I" ∈ tbG := tbG_in (List.mem_of_getElem? (i := 52) (by decide +kernel)) rfl
theorem m_53 : Cond.fieldLinkNest "IharaZeta$Grouping" 47 "IharaZeta$Graph" "firsts" "[I" "IharaZeta" ∈ lw_tbl := List.mem_of_getElem? (i := 53) (by decide +kernel)
theorem m_54 : Cond.fieldLink "IharaZeta$Graph" 22 "IharaZeta$Graph" "seconds" "[I" ∈ tbG := tbG_in (List.mem_of_getElem? (i := 54) (by decide +kernel)) rfl
theorem m_55 : Cond.fieldLinkNest "IharaZeta$Grouping" 50 "IharaZeta$Graph" "seconds" "[I" "IharaZeta" ∈ lw_tbl := List.mem_of_getElem? (i := 55) (by decide +kernel)
theorem m_56 : Cond.fieldLink "IharaZeta$Graph" 25 "IharaZeta$Graph" "signs" "[I" ∈ tbG := tbG_in (List.mem_of_getElem? (i := 56) (by decide +kernel)) rfl
theorem m_57 : Cond.fieldLinkNest "IharaZeta$PrimeSearch" 23 "IharaZeta$Graph" "signs" "[I" "IharaZeta" ∈ lw_tbl := List.mem_of_getElem? (i := 57) (by decide +kernel)
theorem m_58 : Cond.fieldLinkNest "IharaZeta" 103 "IharaZeta$Graph" "signs" "[I" "IharaZeta" ∈ lw_tbl := List.mem_of_getElem? (i := 58) (by decide +kernel)
theorem m_59 : Cond.fieldLinkNest "IharaZeta$WalkCounter" 66 "IharaZeta$Graph" "signs" "[I" "IharaZeta" ∈ lw_tbl := List.mem_of_getElem? (i := 59) (by decide +kernel)
theorem m_60 : Cond.fieldLinkNest "IharaZeta$Grouping" 53 "IharaZeta$Graph" "signs" "[I" "IharaZeta" ∈ lw_tbl := List.mem_of_getElem? (i := 60) (by decide +kernel)
theorem m_61 : Cond.lays "IharaZeta$Graph" "IharaZeta$Graph" "vertices" "I" ∈ tbG := tbG_in (List.mem_of_getElem? (i := 61) (by decide +kernel)) rfl
theorem m_63 : Cond.lays "IharaZeta$Graph" "IharaZeta$Graph" "edges" "I" ∈ tbG := tbG_in (List.mem_of_getElem? (i := 63) (by decide +kernel)) rfl
theorem m_65 : Cond.laysFinal "IharaZeta$Graph" "IharaZeta$Graph" "firsts" "[I" ∈ tbG := tbG_in (List.mem_of_getElem? (i := 65) (by decide +kernel)) rfl
theorem m_67 : Cond.laysFinal "IharaZeta$Graph" "IharaZeta$Graph" "seconds" "[I" ∈ tbG := tbG_in (List.mem_of_getElem? (i := 67) (by decide +kernel)) rfl
theorem m_69 : Cond.laysFinal "IharaZeta$Graph" "IharaZeta$Graph" "signs" "[I" ∈ tbG := tbG_in (List.mem_of_getElem? (i := 69) (by decide +kernel)) rfl
theorem m_72 : Cond.arrayClass FieldType.int ∈ tbG := tbG_in (List.mem_of_getElem? (i := 72) (by decide +kernel)) rfl
theorem m_73 : Cond.classLink "IharaZeta" 21 "IharaZeta$History" ∈ tbG := tbG_in (List.mem_of_getElem? (i := 73) (by decide +kernel)) rfl
theorem m_74 : Cond.instantiable "IharaZeta$History" 2 ∈ tbG := tbG_in (List.mem_of_getElem? (i := 74) (by decide +kernel)) rfl
theorem m_75 : Cond.methodLink "IharaZeta" 23 ⟨"IharaZeta$History","<init>","()V"⟩ ∈ tbG := tbG_in (List.mem_of_getElem? (i := 75) (by decide +kernel)) rfl
theorem m_76 : Cond.instanceMethod ⟨"IharaZeta$History","<init>","()V"⟩ ∈ tbG := tbG_in (List.mem_of_getElem? (i := 76) (by decide +kernel)) rfl
theorem m_77 : Cond.code ⟨"IharaZeta$History","<init>","()V"⟩ prog_6_method_1_code 2 (none : Option FieldType) ∈ tbG := tbG_in (List.mem_of_getElem? (i := 77) (by decide +kernel)) rfl
theorem m_78 : Cond.methodLink "IharaZeta$History" 3 ⟨"java/lang/Object","<init>","()V"⟩ ∈ tbG := tbG_in (List.mem_of_getElem? (i := 78) (by decide +kernel)) rfl
theorem m_79 : Cond.classLink "IharaZeta$History" 15 "IharaZeta$Graph" ∈ tbG := tbG_in (List.mem_of_getElem? (i := 79) (by decide +kernel)) rfl
theorem m_80 : Cond.arrayOver (FieldType.object "IharaZeta$Graph") ∈ lw_tbl := List.mem_of_getElem? (i := 80) (by decide +kernel)
theorem m_81 : Cond.methodLinkNest "IharaZeta$History" 21 ⟨"IharaZeta$Graph","<init>","()V"⟩ "IharaZeta" ∈ lw_tbl := List.mem_of_getElem? (i := 81) (by decide +kernel)
theorem m_82 : Cond.fieldLink "IharaZeta$History" 9 "IharaZeta$History" "count" "I" ∈ tbG := tbG_in (List.mem_of_getElem? (i := 82) (by decide +kernel)) rfl
theorem m_83 : Cond.fieldLinkNest "IharaZeta" 119 "IharaZeta$History" "count" "I" "IharaZeta" ∈ lw_tbl := List.mem_of_getElem? (i := 83) (by decide +kernel)
theorem m_84 : Cond.fieldLink "IharaZeta$History" 17 "IharaZeta$History" "saved" "[LIharaZeta$Graph;" ∈ tbG := tbG_in (List.mem_of_getElem? (i := 84) (by decide +kernel)) rfl
theorem m_85 : Cond.lays "IharaZeta$History" "IharaZeta$History" "count" "I" ∈ tbG := tbG_in (List.mem_of_getElem? (i := 85) (by decide +kernel)) rfl
theorem m_87 : Cond.laysFinal "IharaZeta$History" "IharaZeta$History" "saved" "[LIharaZeta$Graph;" ∈ tbG := tbG_in (List.mem_of_getElem? (i := 87) (by decide +kernel)) rfl
theorem m_90 : Cond.classLink "IharaZeta" 28 "IharaZeta$EdgeText" ∈ tbG := tbG_in (List.mem_of_getElem? (i := 90) (by decide +kernel)) rfl
theorem m_91 : Cond.instantiable "IharaZeta$EdgeText" 6 ∈ tbG := tbG_in (List.mem_of_getElem? (i := 91) (by decide +kernel)) rfl
theorem m_92 : Cond.methodLinkNest "IharaZeta" 30 ⟨"IharaZeta$EdgeText","<init>","()V"⟩ "IharaZeta" ∈ lw_tbl := List.mem_of_getElem? (i := 92) (by decide +kernel)
theorem m_93 : Cond.instanceMethod ⟨"IharaZeta$EdgeText","<init>","()V"⟩ ∈ tbG := tbG_in (List.mem_of_getElem? (i := 93) (by decide +kernel)) rfl
theorem m_94 : Cond.code ⟨"IharaZeta$EdgeText","<init>","()V"⟩ prog_3_method_1_code 1 (none : Option FieldType) ∈ tbG := tbG_in (List.mem_of_getElem? (i := 94) (by decide +kernel)) rfl
theorem m_95 : Cond.methodLink "IharaZeta$EdgeText" 3 ⟨"java/lang/Object","<init>","()V"⟩ ∈ tbG := tbG_in (List.mem_of_getElem? (i := 95) (by decide +kernel)) rfl
theorem m_96 : Cond.fieldLink "IharaZeta$EdgeText" 9 "IharaZeta$EdgeText" "length" "I" ∈ tbG := tbG_in (List.mem_of_getElem? (i := 96) (by decide +kernel)) rfl
theorem m_97 : Cond.fieldLinkNest "IharaZeta" 107 "IharaZeta$EdgeText" "length" "I" "IharaZeta" ∈ lw_tbl := List.mem_of_getElem? (i := 97) (by decide +kernel)
theorem m_98 : Cond.fieldLink "IharaZeta$EdgeText" 15 "IharaZeta$EdgeText" "characters" "[I" ∈ tbG := tbG_in (List.mem_of_getElem? (i := 98) (by decide +kernel)) rfl
theorem m_99 : Cond.fieldLink "IharaZeta$EdgeText" 19 "IharaZeta$EdgeText" "stage" "I" ∈ tbG := tbG_in (List.mem_of_getElem? (i := 99) (by decide +kernel)) rfl
theorem m_100 : Cond.fieldLink "IharaZeta$EdgeText" 48 "IharaZeta$EdgeText" "first" "I" ∈ tbG := tbG_in (List.mem_of_getElem? (i := 100) (by decide +kernel)) rfl
theorem m_101 : Cond.fieldLink "IharaZeta$EdgeText" 54 "IharaZeta$EdgeText" "second" "I" ∈ tbG := tbG_in (List.mem_of_getElem? (i := 101) (by decide +kernel)) rfl
theorem m_102 : Cond.fieldLink "IharaZeta$EdgeText" 51 "IharaZeta$EdgeText" "sign" "I" ∈ tbG := tbG_in (List.mem_of_getElem? (i := 102) (by decide +kernel)) rfl
theorem m_103 : Cond.lays "IharaZeta$EdgeText" "IharaZeta$EdgeText" "length" "I" ∈ tbG := tbG_in (List.mem_of_getElem? (i := 103) (by decide +kernel)) rfl
theorem m_105 : Cond.laysFinal "IharaZeta$EdgeText" "IharaZeta$EdgeText" "characters" "[I" ∈ tbG := tbG_in (List.mem_of_getElem? (i := 105) (by decide +kernel)) rfl
theorem m_107 : Cond.lays "IharaZeta$EdgeText" "IharaZeta$EdgeText" "stage" "I" ∈ tbG := tbG_in (List.mem_of_getElem? (i := 107) (by decide +kernel)) rfl
theorem m_109 : Cond.lays "IharaZeta$EdgeText" "IharaZeta$EdgeText" "first" "I" ∈ tbG := tbG_in (List.mem_of_getElem? (i := 109) (by decide +kernel)) rfl
theorem m_111 : Cond.lays "IharaZeta$EdgeText" "IharaZeta$EdgeText" "second" "I" ∈ tbG := tbG_in (List.mem_of_getElem? (i := 111) (by decide +kernel)) rfl
theorem m_113 : Cond.lays "IharaZeta$EdgeText" "IharaZeta$EdgeText" "sign" "I" ∈ tbG := tbG_in (List.mem_of_getElem? (i := 113) (by decide +kernel)) rfl
theorem m_116 : Cond.classLink "IharaZeta" 35 "IharaZeta$Grouping" ∈ tbG := tbG_in (List.mem_of_getElem? (i := 116) (by decide +kernel)) rfl
theorem m_117 : Cond.instantiable "IharaZeta$Grouping" 2 ∈ tbG := tbG_in (List.mem_of_getElem? (i := 117) (by decide +kernel)) rfl
theorem m_118 : Cond.methodLinkNest "IharaZeta" 37 ⟨"IharaZeta$Grouping","<init>","()V"⟩ "IharaZeta" ∈ lw_tbl := List.mem_of_getElem? (i := 118) (by decide +kernel)
theorem m_119 : Cond.instanceMethod ⟨"IharaZeta$Grouping","<init>","()V"⟩ ∈ tbG := tbG_in (List.mem_of_getElem? (i := 119) (by decide +kernel)) rfl
theorem m_120 : Cond.code ⟨"IharaZeta$Grouping","<init>","()V"⟩ prog_5_method_1_code 1 (none : Option FieldType) ∈ tbG := tbG_in (List.mem_of_getElem? (i := 120) (by decide +kernel)) rfl
theorem m_121 : Cond.methodLink "IharaZeta$Grouping" 3 ⟨"java/lang/Object","<init>","()V"⟩ ∈ tbG := tbG_in (List.mem_of_getElem? (i := 121) (by decide +kernel)) rfl
theorem m_122 : Cond.fieldLink "IharaZeta$Grouping" 9 "IharaZeta$Grouping" "groups" "[I" ∈ tbG := tbG_in (List.mem_of_getElem? (i := 122) (by decide +kernel)) rfl
theorem m_123 : Cond.fieldLink "IharaZeta$Grouping" 15 "IharaZeta$Grouping" "sides" "[I" ∈ tbG := tbG_in (List.mem_of_getElem? (i := 123) (by decide +kernel)) rfl
theorem m_124 : Cond.laysFinal "IharaZeta$Grouping" "IharaZeta$Grouping" "groups" "[I" ∈ tbG := tbG_in (List.mem_of_getElem? (i := 124) (by decide +kernel)) rfl
theorem m_126 : Cond.laysFinal "IharaZeta$Grouping" "IharaZeta$Grouping" "sides" "[I" ∈ tbG := tbG_in (List.mem_of_getElem? (i := 126) (by decide +kernel)) rfl
theorem m_129 : Cond.classLink "IharaZeta" 42 "IharaZeta$WalkCounter" ∈ tbG := tbG_in (List.mem_of_getElem? (i := 129) (by decide +kernel)) rfl
theorem m_130 : Cond.instantiable "IharaZeta$WalkCounter" 6 ∈ tbG := tbG_in (List.mem_of_getElem? (i := 130) (by decide +kernel)) rfl
theorem m_131 : Cond.methodLinkNest "IharaZeta" 44 ⟨"IharaZeta$WalkCounter","<init>","()V"⟩ "IharaZeta" ∈ lw_tbl := List.mem_of_getElem? (i := 131) (by decide +kernel)
theorem m_132 : Cond.instanceMethod ⟨"IharaZeta$WalkCounter","<init>","()V"⟩ ∈ tbG := tbG_in (List.mem_of_getElem? (i := 132) (by decide +kernel)) rfl
theorem m_133 : Cond.code ⟨"IharaZeta$WalkCounter","<init>","()V"⟩ prog_9_method_1_code 1 (none : Option FieldType) ∈ tbG := tbG_in (List.mem_of_getElem? (i := 133) (by decide +kernel)) rfl
theorem m_134 : Cond.methodLink "IharaZeta$WalkCounter" 3 ⟨"java/lang/Object","<init>","()V"⟩ ∈ tbG := tbG_in (List.mem_of_getElem? (i := 134) (by decide +kernel)) rfl
theorem m_135 : Cond.fieldLink "IharaZeta$WalkCounter" 9 "IharaZeta$WalkCounter" "closed" "[J" ∈ tbG := tbG_in (List.mem_of_getElem? (i := 135) (by decide +kernel)) rfl
theorem m_136 : Cond.fieldLinkNest "IharaZeta" 154 "IharaZeta$WalkCounter" "closed" "[J" "IharaZeta" ∈ lw_tbl := List.mem_of_getElem? (i := 136) (by decide +kernel)
theorem m_137 : Cond.fieldLink "IharaZeta$WalkCounter" 15 "IharaZeta$WalkCounter" "closedSigned" "[J" ∈ tbG := tbG_in (List.mem_of_getElem? (i := 137) (by decide +kernel)) rfl
theorem m_138 : Cond.fieldLinkNest "IharaZeta" 161 "IharaZeta$WalkCounter" "closedSigned" "[J" "IharaZeta" ∈ lw_tbl := List.mem_of_getElem? (i := 138) (by decide +kernel)
theorem m_139 : Cond.fieldLink "IharaZeta$WalkCounter" 18 "IharaZeta$WalkCounter" "primitive" "[J" ∈ tbG := tbG_in (List.mem_of_getElem? (i := 139) (by decide +kernel)) rfl
theorem m_140 : Cond.fieldLinkNest "IharaZeta" 167 "IharaZeta$WalkCounter" "primitive" "[J" "IharaZeta" ∈ lw_tbl := List.mem_of_getElem? (i := 140) (by decide +kernel)
theorem m_141 : Cond.fieldLink "IharaZeta$WalkCounter" 21 "IharaZeta$WalkCounter" "primitiveSigned" "[J" ∈ tbG := tbG_in (List.mem_of_getElem? (i := 141) (by decide +kernel)) rfl
theorem m_142 : Cond.fieldLinkNest "IharaZeta" 173 "IharaZeta$WalkCounter" "primitiveSigned" "[J" "IharaZeta" ∈ lw_tbl := List.mem_of_getElem? (i := 142) (by decide +kernel)
theorem m_143 : Cond.fieldLink "IharaZeta$WalkCounter" 24 "IharaZeta$WalkCounter" "reached" "[J" ∈ tbG := tbG_in (List.mem_of_getElem? (i := 143) (by decide +kernel)) rfl
theorem m_144 : Cond.fieldLink "IharaZeta$WalkCounter" 27 "IharaZeta$WalkCounter" "arrived" "[J" ∈ tbG := tbG_in (List.mem_of_getElem? (i := 144) (by decide +kernel)) rfl
theorem m_145 : Cond.laysFinal "IharaZeta$WalkCounter" "IharaZeta$WalkCounter" "closed" "[J" ∈ tbG := tbG_in (List.mem_of_getElem? (i := 145) (by decide +kernel)) rfl
theorem m_147 : Cond.laysFinal "IharaZeta$WalkCounter" "IharaZeta$WalkCounter" "closedSigned" "[J" ∈ tbG := tbG_in (List.mem_of_getElem? (i := 147) (by decide +kernel)) rfl
theorem m_149 : Cond.laysFinal "IharaZeta$WalkCounter" "IharaZeta$WalkCounter" "primitive" "[J" ∈ tbG := tbG_in (List.mem_of_getElem? (i := 149) (by decide +kernel)) rfl
theorem m_151 : Cond.laysFinal "IharaZeta$WalkCounter" "IharaZeta$WalkCounter" "primitiveSigned" "[J" ∈ tbG := tbG_in (List.mem_of_getElem? (i := 151) (by decide +kernel)) rfl
theorem m_153 : Cond.laysFinal "IharaZeta$WalkCounter" "IharaZeta$WalkCounter" "reached" "[J" ∈ tbG := tbG_in (List.mem_of_getElem? (i := 153) (by decide +kernel)) rfl
theorem m_155 : Cond.laysFinal "IharaZeta$WalkCounter" "IharaZeta$WalkCounter" "arrived" "[J" ∈ tbG := tbG_in (List.mem_of_getElem? (i := 155) (by decide +kernel)) rfl
theorem m_158 : Cond.arrayClass FieldType.long ∈ tbG := tbG_in (List.mem_of_getElem? (i := 158) (by decide +kernel)) rfl
theorem m_159 : Cond.classLink "IharaZeta" 49 "IharaZeta$PrimeSearch" ∈ tbG := tbG_in (List.mem_of_getElem? (i := 159) (by decide +kernel)) rfl
theorem m_160 : Cond.instantiable "IharaZeta$PrimeSearch" 2 ∈ tbG := tbG_in (List.mem_of_getElem? (i := 160) (by decide +kernel)) rfl
theorem m_161 : Cond.methodLinkNest "IharaZeta" 51 ⟨"IharaZeta$PrimeSearch","<init>","()V"⟩ "IharaZeta" ∈ lw_tbl := List.mem_of_getElem? (i := 161) (by decide +kernel)
theorem m_162 : Cond.instanceMethod ⟨"IharaZeta$PrimeSearch","<init>","()V"⟩ ∈ tbG := tbG_in (List.mem_of_getElem? (i := 162) (by decide +kernel)) rfl
theorem m_163 : Cond.code ⟨"IharaZeta$PrimeSearch","<init>","()V"⟩ prog_7_method_1_code 1 (none : Option FieldType) ∈ tbG := tbG_in (List.mem_of_getElem? (i := 163) (by decide +kernel)) rfl
theorem m_164 : Cond.methodLink "IharaZeta$PrimeSearch" 3 ⟨"java/lang/Object","<init>","()V"⟩ ∈ tbG := tbG_in (List.mem_of_getElem? (i := 164) (by decide +kernel)) rfl
theorem m_165 : Cond.fieldLink "IharaZeta$PrimeSearch" 9 "IharaZeta$PrimeSearch" "word" "[I" ∈ tbG := tbG_in (List.mem_of_getElem? (i := 165) (by decide +kernel)) rfl
theorem m_166 : Cond.fieldLinkNest "IharaZeta" 189 "IharaZeta$PrimeSearch" "word" "[I" "IharaZeta" ∈ lw_tbl := List.mem_of_getElem? (i := 166) (by decide +kernel)
theorem m_167 : Cond.fieldLink "IharaZeta$PrimeSearch" 15 "IharaZeta$PrimeSearch" "toSkip" "I" ∈ tbG := tbG_in (List.mem_of_getElem? (i := 167) (by decide +kernel)) rfl
theorem m_168 : Cond.laysFinal "IharaZeta$PrimeSearch" "IharaZeta$PrimeSearch" "word" "[I" ∈ tbG := tbG_in (List.mem_of_getElem? (i := 168) (by decide +kernel)) rfl
theorem m_170 : Cond.lays "IharaZeta$PrimeSearch" "IharaZeta$PrimeSearch" "toSkip" "I" ∈ tbG := tbG_in (List.mem_of_getElem? (i := 170) (by decide +kernel)) rfl
theorem m_173 : Cond.classLink "IharaZeta" 56 "IharaZeta$EdgePolynomial" ∈ tbG := tbG_in (List.mem_of_getElem? (i := 173) (by decide +kernel)) rfl
theorem m_174 : Cond.instantiable "IharaZeta$EdgePolynomial" 2 ∈ tbG := tbG_in (List.mem_of_getElem? (i := 174) (by decide +kernel)) rfl
theorem m_175 : Cond.methodLinkNest "IharaZeta" 58 ⟨"IharaZeta$EdgePolynomial","<init>","()V"⟩ "IharaZeta" ∈ lw_tbl := List.mem_of_getElem? (i := 175) (by decide +kernel)
theorem m_176 : Cond.instanceMethod ⟨"IharaZeta$EdgePolynomial","<init>","()V"⟩ ∈ tbG := tbG_in (List.mem_of_getElem? (i := 176) (by decide +kernel)) rfl
theorem m_177 : Cond.code ⟨"IharaZeta$EdgePolynomial","<init>","()V"⟩ prog_2_method_1_code 1 (none : Option FieldType) ∈ tbG := tbG_in (List.mem_of_getElem? (i := 177) (by decide +kernel)) rfl
theorem m_178 : Cond.methodLink "IharaZeta$EdgePolynomial" 3 ⟨"java/lang/Object","<init>","()V"⟩ ∈ tbG := tbG_in (List.mem_of_getElem? (i := 178) (by decide +kernel)) rfl
theorem m_179 : Cond.fieldLink "IharaZeta$EdgePolynomial" 9 "IharaZeta$EdgePolynomial" "coefficients" "[J" ∈ tbG := tbG_in (List.mem_of_getElem? (i := 179) (by decide +kernel)) rfl
theorem m_180 : Cond.fieldLinkNest "IharaZeta" 202 "IharaZeta$EdgePolynomial" "coefficients" "[J" "IharaZeta" ∈ lw_tbl := List.mem_of_getElem? (i := 180) (by decide +kernel)
theorem m_181 : Cond.fieldLink "IharaZeta$EdgePolynomial" 15 "IharaZeta$EdgePolynomial" "work" "[J" ∈ tbG := tbG_in (List.mem_of_getElem? (i := 181) (by decide +kernel)) rfl
theorem m_182 : Cond.laysFinal "IharaZeta$EdgePolynomial" "IharaZeta$EdgePolynomial" "coefficients" "[J" ∈ tbG := tbG_in (List.mem_of_getElem? (i := 182) (by decide +kernel)) rfl
theorem m_184 : Cond.laysFinal "IharaZeta$EdgePolynomial" "IharaZeta$EdgePolynomial" "work" "[J" ∈ tbG := tbG_in (List.mem_of_getElem? (i := 184) (by decide +kernel)) rfl
theorem m_187 : Cond.classLink "IharaZeta" 63 "IharaZeta$VertexPolynomial" ∈ tbG := tbG_in (List.mem_of_getElem? (i := 187) (by decide +kernel)) rfl
theorem m_188 : Cond.instantiable "IharaZeta$VertexPolynomial" 2 ∈ tbG := tbG_in (List.mem_of_getElem? (i := 188) (by decide +kernel)) rfl
theorem m_189 : Cond.methodLinkNest "IharaZeta" 65 ⟨"IharaZeta$VertexPolynomial","<init>","()V"⟩ "IharaZeta" ∈ lw_tbl := List.mem_of_getElem? (i := 189) (by decide +kernel)
theorem m_190 : Cond.instanceMethod ⟨"IharaZeta$VertexPolynomial","<init>","()V"⟩ ∈ tbG := tbG_in (List.mem_of_getElem? (i := 190) (by decide +kernel)) rfl
theorem m_191 : Cond.code ⟨"IharaZeta$VertexPolynomial","<init>","()V"⟩ prog_8_method_1_code 1 (none : Option FieldType) ∈ tbG := tbG_in (List.mem_of_getElem? (i := 191) (by decide +kernel)) rfl
theorem m_192 : Cond.methodLink "IharaZeta$VertexPolynomial" 3 ⟨"java/lang/Object","<init>","()V"⟩ ∈ tbG := tbG_in (List.mem_of_getElem? (i := 192) (by decide +kernel)) rfl
theorem m_193 : Cond.classLink "IharaZeta$VertexPolynomial" 15 "[[J" ∈ tbG := tbG_in (List.mem_of_getElem? (i := 193) (by decide +kernel)) rfl
theorem m_194 : Cond.arrayOver (FieldType.array FieldType.long) ∈ lw_tbl := List.mem_of_getElem? (i := 194) (by decide +kernel)
theorem m_195 : Cond.fieldLink "IharaZeta$VertexPolynomial" 9 "IharaZeta$VertexPolynomial" "coefficients" "[J" ∈ tbG := tbG_in (List.mem_of_getElem? (i := 195) (by decide +kernel)) rfl
theorem m_196 : Cond.fieldLinkNest "IharaZeta" 211 "IharaZeta$VertexPolynomial" "coefficients" "[J" "IharaZeta" ∈ lw_tbl := List.mem_of_getElem? (i := 196) (by decide +kernel)
theorem m_197 : Cond.fieldLink "IharaZeta$VertexPolynomial" 17 "IharaZeta$VertexPolynomial" "minors" "[[J" ∈ tbG := tbG_in (List.mem_of_getElem? (i := 197) (by decide +kernel)) rfl
theorem m_198 : Cond.laysFinal "IharaZeta$VertexPolynomial" "IharaZeta$VertexPolynomial" "coefficients" "[J" ∈ tbG := tbG_in (List.mem_of_getElem? (i := 198) (by decide +kernel)) rfl
theorem m_200 : Cond.laysFinal "IharaZeta$VertexPolynomial" "IharaZeta$VertexPolynomial" "minors" "[[J" ∈ tbG := tbG_in (List.mem_of_getElem? (i := 200) (by decide +kernel)) rfl
theorem m_203 : Cond.fieldLink "IharaZeta" 12 "IharaZeta" "graph" "LIharaZeta$Graph;" ∈ tbG := tbG_in (List.mem_of_getElem? (i := 203) (by decide +kernel)) rfl
theorem m_204 : Cond.fieldLink "IharaZeta" 18 "IharaZeta" "draft" "LIharaZeta$Graph;" ∈ tbG := tbG_in (List.mem_of_getElem? (i := 204) (by decide +kernel)) rfl
theorem m_205 : Cond.fieldLink "IharaZeta" 24 "IharaZeta" "history" "LIharaZeta$History;" ∈ tbG := tbG_in (List.mem_of_getElem? (i := 205) (by decide +kernel)) rfl
theorem m_206 : Cond.fieldLink "IharaZeta" 31 "IharaZeta" "text" "LIharaZeta$EdgeText;" ∈ tbG := tbG_in (List.mem_of_getElem? (i := 206) (by decide +kernel)) rfl
theorem m_207 : Cond.fieldLink "IharaZeta" 38 "IharaZeta" "grouping" "LIharaZeta$Grouping;" ∈ tbG := tbG_in (List.mem_of_getElem? (i := 207) (by decide +kernel)) rfl
theorem m_208 : Cond.fieldLink "IharaZeta" 45 "IharaZeta" "counter" "LIharaZeta$WalkCounter;" ∈ tbG := tbG_in (List.mem_of_getElem? (i := 208) (by decide +kernel)) rfl
theorem m_209 : Cond.fieldLink "IharaZeta" 52 "IharaZeta" "search" "LIharaZeta$PrimeSearch;" ∈ tbG := tbG_in (List.mem_of_getElem? (i := 209) (by decide +kernel)) rfl
theorem m_210 : Cond.fieldLink "IharaZeta" 59 "IharaZeta" "edgePolynomial" "LIharaZeta$EdgePolynomial;" ∈ tbG := tbG_in (List.mem_of_getElem? (i := 210) (by decide +kernel)) rfl
theorem m_211 : Cond.fieldLink "IharaZeta" 66 "IharaZeta" "vertexPolynomial" "LIharaZeta$VertexPolynomial;" ∈ tbG := tbG_in (List.mem_of_getElem? (i := 211) (by decide +kernel)) rfl
theorem m_212 : Cond.laysFinal "IharaZeta" "IharaZeta" "graph" "LIharaZeta$Graph;" ∈ tbG := tbG_in (List.mem_of_getElem? (i := 212) (by decide +kernel)) rfl
theorem m_214 : Cond.laysFinal "IharaZeta" "IharaZeta" "draft" "LIharaZeta$Graph;" ∈ tbG := tbG_in (List.mem_of_getElem? (i := 214) (by decide +kernel)) rfl
theorem m_216 : Cond.laysFinal "IharaZeta" "IharaZeta" "history" "LIharaZeta$History;" ∈ tbG := tbG_in (List.mem_of_getElem? (i := 216) (by decide +kernel)) rfl
theorem m_218 : Cond.laysFinal "IharaZeta" "IharaZeta" "text" "LIharaZeta$EdgeText;" ∈ tbG := tbG_in (List.mem_of_getElem? (i := 218) (by decide +kernel)) rfl
theorem m_220 : Cond.laysFinal "IharaZeta" "IharaZeta" "grouping" "LIharaZeta$Grouping;" ∈ tbG := tbG_in (List.mem_of_getElem? (i := 220) (by decide +kernel)) rfl
theorem m_222 : Cond.laysFinal "IharaZeta" "IharaZeta" "counter" "LIharaZeta$WalkCounter;" ∈ tbG := tbG_in (List.mem_of_getElem? (i := 222) (by decide +kernel)) rfl
theorem m_224 : Cond.laysFinal "IharaZeta" "IharaZeta" "search" "LIharaZeta$PrimeSearch;" ∈ tbG := tbG_in (List.mem_of_getElem? (i := 224) (by decide +kernel)) rfl
theorem m_226 : Cond.laysFinal "IharaZeta" "IharaZeta" "edgePolynomial" "LIharaZeta$EdgePolynomial;" ∈ tbG := tbG_in (List.mem_of_getElem? (i := 226) (by decide +kernel)) rfl
theorem m_228 : Cond.laysFinal "IharaZeta" "IharaZeta" "vertexPolynomial" "LIharaZeta$VertexPolynomial;" ∈ tbG := tbG_in (List.mem_of_getElem? (i := 228) (by decide +kernel)) rfl
theorem m_231 : Cond.methodLink "IharaZetaLaw" 29 ⟨"IharaZeta","addEdge","(III)I"⟩ ∈ tbG := tbG_in (List.mem_of_getElem? (i := 231) (by decide +kernel)) rfl
theorem m_232 : Cond.instanceMethod ⟨"IharaZeta","addEdge","(III)I"⟩ ∈ tbG := tbG_in (List.mem_of_getElem? (i := 232) (by decide +kernel)) rfl
theorem m_233 : Cond.selects "IharaZeta" ⟨"IharaZeta","addEdge","(III)I"⟩ ⟨"IharaZeta","addEdge","(III)I"⟩ ∈ tbG := tbG_in (List.mem_of_getElem? (i := 233) (by decide +kernel)) rfl
theorem m_234 : Cond.code ⟨"IharaZeta","addEdge","(III)I"⟩ prog_1_method_3_code 4 (some FieldType.int) ∈ tbG := tbG_in (List.mem_of_getElem? (i := 234) (by decide +kernel)) rfl
theorem m_235 : Cond.methodLink "IharaZeta" 82 ⟨"IharaZeta$Graph","hasVertex","(I)Z"⟩ ∈ tbG := tbG_in (List.mem_of_getElem? (i := 235) (by decide +kernel)) rfl
theorem m_236 : Cond.instanceMethod ⟨"IharaZeta$Graph","hasVertex","(I)Z"⟩ ∈ tbG := tbG_in (List.mem_of_getElem? (i := 236) (by decide +kernel)) rfl
theorem m_237 : Cond.selects "IharaZeta$Graph" ⟨"IharaZeta$Graph","hasVertex","(I)Z"⟩ ⟨"IharaZeta$Graph","hasVertex","(I)Z"⟩ ∈ tbG := tbG_in (List.mem_of_getElem? (i := 237) (by decide +kernel)) rfl
theorem m_238 : Cond.code ⟨"IharaZeta$Graph","hasVertex","(I)Z"⟩ prog_4_method_5_code 2 (some FieldType.boolean) ∈ tbG := tbG_in (List.mem_of_getElem? (i := 238) (by decide +kernel)) rfl
theorem m_239 : Cond.methodLink "IharaZeta" 86 ⟨"IharaZeta$Graph","isFull","()Z"⟩ ∈ tbG := tbG_in (List.mem_of_getElem? (i := 239) (by decide +kernel)) rfl
theorem m_240 : Cond.instanceMethod ⟨"IharaZeta$Graph","isFull","()Z"⟩ ∈ tbG := tbG_in (List.mem_of_getElem? (i := 240) (by decide +kernel)) rfl
theorem m_241 : Cond.selects "IharaZeta$Graph" ⟨"IharaZeta$Graph","isFull","()Z"⟩ ⟨"IharaZeta$Graph","isFull","()Z"⟩ ∈ tbG := tbG_in (List.mem_of_getElem? (i := 241) (by decide +kernel)) rfl
theorem m_242 : Cond.code ⟨"IharaZeta$Graph","isFull","()Z"⟩ prog_4_method_4_code 1 (some FieldType.boolean) ∈ tbG := tbG_in (List.mem_of_getElem? (i := 242) (by decide +kernel)) rfl
theorem m_243 : Cond.methodLink "IharaZeta" 74 ⟨"IharaZeta$History","save","(LIharaZeta$Graph;)V"⟩ ∈ tbG := tbG_in (List.mem_of_getElem? (i := 243) (by decide +kernel)) rfl
theorem m_244 : Cond.instanceMethod ⟨"IharaZeta$History","save","(LIharaZeta$Graph;)V"⟩ ∈ tbG := tbG_in (List.mem_of_getElem? (i := 244) (by decide +kernel)) rfl
theorem m_245 : Cond.selects "IharaZeta$History" ⟨"IharaZeta$History","save","(LIharaZeta$Graph;)V"⟩ ⟨"IharaZeta$History","save","(LIharaZeta$Graph;)V"⟩ ∈ tbG := tbG_in (List.mem_of_getElem? (i := 245) (by decide +kernel)) rfl
theorem m_246 : Cond.code ⟨"IharaZeta$History","save","(LIharaZeta$Graph;)V"⟩ prog_6_method_2_code 2 (none : Option FieldType) ∈ tbG := tbG_in (List.mem_of_getElem? (i := 246) (by decide +kernel)) rfl
theorem m_247 : Cond.methodLink "IharaZeta$History" 22 ⟨"IharaZeta$History","discardOldest","()V"⟩ ∈ tbG := tbG_in (List.mem_of_getElem? (i := 247) (by decide +kernel)) rfl
theorem m_249 : Cond.instanceMethod ⟨"IharaZeta$History","discardOldest","()V"⟩ ∈ tbG := tbG_in (List.mem_of_getElem? (i := 249) (by decide +kernel)) rfl
theorem m_250 : Cond.code ⟨"IharaZeta$History","discardOldest","()V"⟩ prog_6_method_4_code 3 (none : Option FieldType) ∈ tbG := tbG_in (List.mem_of_getElem? (i := 250) (by decide +kernel)) rfl
theorem m_251 : Cond.methodLink "IharaZeta$History" 25 ⟨"IharaZeta$Graph","copyFrom","(LIharaZeta$Graph;)V"⟩ ∈ tbG := tbG_in (List.mem_of_getElem? (i := 251) (by decide +kernel)) rfl
theorem m_252 : Cond.instanceMethod ⟨"IharaZeta$Graph","copyFrom","(LIharaZeta$Graph;)V"⟩ ∈ tbG := tbG_in (List.mem_of_getElem? (i := 252) (by decide +kernel)) rfl
theorem m_253 : Cond.selects "IharaZeta$Graph" ⟨"IharaZeta$Graph","copyFrom","(LIharaZeta$Graph;)V"⟩ ⟨"IharaZeta$Graph","copyFrom","(LIharaZeta$Graph;)V"⟩ ∈ tbG := tbG_in (List.mem_of_getElem? (i := 253) (by decide +kernel)) rfl
theorem m_254 : Cond.code ⟨"IharaZeta$Graph","copyFrom","(LIharaZeta$Graph;)V"⟩ prog_4_method_3_code 3 (none : Option FieldType) ∈ tbG := tbG_in (List.mem_of_getElem? (i := 254) (by decide +kernel)) rfl
theorem m_255 : Cond.methodLink "IharaZeta" 90 ⟨"IharaZeta$Graph","append","(III)V"⟩ ∈ tbG := tbG_in (List.mem_of_getElem? (i := 255) (by decide +kernel)) rfl
theorem m_256 : Cond.instanceMethod ⟨"IharaZeta$Graph","append","(III)V"⟩ ∈ tbG := tbG_in (List.mem_of_getElem? (i := 256) (by decide +kernel)) rfl
theorem m_257 : Cond.selects "IharaZeta$Graph" ⟨"IharaZeta$Graph","append","(III)V"⟩ ⟨"IharaZeta$Graph","append","(III)V"⟩ ∈ tbG := tbG_in (List.mem_of_getElem? (i := 257) (by decide +kernel)) rfl
theorem m_258 : Cond.code ⟨"IharaZeta$Graph","append","(III)V"⟩ prog_4_method_8_code 4 (none : Option FieldType) ∈ tbG := tbG_in (List.mem_of_getElem? (i := 258) (by decide +kernel)) rfl
theorem m_259 : Cond.methodLink "IharaZeta$Graph" 28 ⟨"IharaZeta$Graph","isFull","()Z"⟩ ∈ tbG := tbG_in (List.mem_of_getElem? (i := 259) (by decide +kernel)) rfl
theorem m_260 : Cond.methodLink "IharaZetaLaw" 61 ⟨"IharaZeta","removeEdge","(I)I"⟩ ∈ tbG := tbG_in (List.mem_of_getElem? (i := 260) (by decide +kernel)) rfl
theorem m_261 : Cond.instanceMethod ⟨"IharaZeta","removeEdge","(I)I"⟩ ∈ tbG := tbG_in (List.mem_of_getElem? (i := 261) (by decide +kernel)) rfl
theorem m_262 : Cond.selects "IharaZeta" ⟨"IharaZeta","removeEdge","(I)I"⟩ ⟨"IharaZeta","removeEdge","(I)I"⟩ ∈ tbG := tbG_in (List.mem_of_getElem? (i := 262) (by decide +kernel)) rfl
theorem m_263 : Cond.code ⟨"IharaZeta","removeEdge","(I)I"⟩ prog_1_method_4_code 2 (some FieldType.int) ∈ tbG := tbG_in (List.mem_of_getElem? (i := 263) (by decide +kernel)) rfl
theorem m_264 : Cond.methodLink "IharaZeta" 97 ⟨"IharaZeta$Graph","hasEdge","(I)Z"⟩ ∈ tbG := tbG_in (List.mem_of_getElem? (i := 264) (by decide +kernel)) rfl
theorem m_265 : Cond.instanceMethod ⟨"IharaZeta$Graph","hasEdge","(I)Z"⟩ ∈ tbG := tbG_in (List.mem_of_getElem? (i := 265) (by decide +kernel)) rfl
theorem m_266 : Cond.selects "IharaZeta$Graph" ⟨"IharaZeta$Graph","hasEdge","(I)Z"⟩ ⟨"IharaZeta$Graph","hasEdge","(I)Z"⟩ ∈ tbG := tbG_in (List.mem_of_getElem? (i := 266) (by decide +kernel)) rfl
theorem m_267 : Cond.code ⟨"IharaZeta$Graph","hasEdge","(I)Z"⟩ prog_4_method_6_code 2 (some FieldType.boolean) ∈ tbG := tbG_in (List.mem_of_getElem? (i := 267) (by decide +kernel)) rfl
theorem m_268 : Cond.methodLink "IharaZeta" 100 ⟨"IharaZeta$Graph","delete","(I)V"⟩ ∈ tbG := tbG_in (List.mem_of_getElem? (i := 268) (by decide +kernel)) rfl
theorem m_269 : Cond.instanceMethod ⟨"IharaZeta$Graph","delete","(I)V"⟩ ∈ tbG := tbG_in (List.mem_of_getElem? (i := 269) (by decide +kernel)) rfl
theorem m_270 : Cond.selects "IharaZeta$Graph" ⟨"IharaZeta$Graph","delete","(I)V"⟩ ⟨"IharaZeta$Graph","delete","(I)V"⟩ ∈ tbG := tbG_in (List.mem_of_getElem? (i := 270) (by decide +kernel)) rfl
theorem m_271 : Cond.code ⟨"IharaZeta$Graph","delete","(I)V"⟩ prog_4_method_9_code 3 (none : Option FieldType) ∈ tbG := tbG_in (List.mem_of_getElem? (i := 271) (by decide +kernel)) rfl
theorem m_272 : Cond.methodLink "IharaZetaLaw" 64 ⟨"IharaZeta","flipSign","(I)I"⟩ ∈ tbG := tbG_in (List.mem_of_getElem? (i := 272) (by decide +kernel)) rfl
theorem m_273 : Cond.instanceMethod ⟨"IharaZeta","flipSign","(I)I"⟩ ∈ tbG := tbG_in (List.mem_of_getElem? (i := 273) (by decide +kernel)) rfl
theorem m_274 : Cond.selects "IharaZeta" ⟨"IharaZeta","flipSign","(I)I"⟩ ⟨"IharaZeta","flipSign","(I)I"⟩ ∈ tbG := tbG_in (List.mem_of_getElem? (i := 274) (by decide +kernel)) rfl
theorem m_275 : Cond.code ⟨"IharaZeta","flipSign","(I)I"⟩ prog_1_method_5_code 2 (some FieldType.int) ∈ tbG := tbG_in (List.mem_of_getElem? (i := 275) (by decide +kernel)) rfl
theorem m_276 : Cond.methodLink "IharaZetaLaw" 124 ⟨"IharaZeta","loadGraph","()I"⟩ ∈ tbG := tbG_in (List.mem_of_getElem? (i := 276) (by decide +kernel)) rfl
theorem m_277 : Cond.instanceMethod ⟨"IharaZeta","loadGraph","()I"⟩ ∈ tbG := tbG_in (List.mem_of_getElem? (i := 277) (by decide +kernel)) rfl
theorem m_278 : Cond.selects "IharaZeta" ⟨"IharaZeta","loadGraph","()I"⟩ ⟨"IharaZeta","loadGraph","()I"⟩ ∈ tbG := tbG_in (List.mem_of_getElem? (i := 278) (by decide +kernel)) rfl
theorem m_279 : Cond.code ⟨"IharaZeta","loadGraph","()I"⟩ prog_1_method_8_code 2 (some FieldType.int) ∈ tbG := tbG_in (List.mem_of_getElem? (i := 279) (by decide +kernel)) rfl
theorem m_280 : Cond.methodLink "IharaZeta" 78 ⟨"IharaZeta$Graph","makeEmpty","(I)V"⟩ ∈ tbG := tbG_in (List.mem_of_getElem? (i := 280) (by decide +kernel)) rfl
theorem m_281 : Cond.instanceMethod ⟨"IharaZeta$Graph","makeEmpty","(I)V"⟩ ∈ tbG := tbG_in (List.mem_of_getElem? (i := 281) (by decide +kernel)) rfl
theorem m_282 : Cond.selects "IharaZeta$Graph" ⟨"IharaZeta$Graph","makeEmpty","(I)V"⟩ ⟨"IharaZeta$Graph","makeEmpty","(I)V"⟩ ∈ tbG := tbG_in (List.mem_of_getElem? (i := 282) (by decide +kernel)) rfl
theorem m_283 : Cond.code ⟨"IharaZeta$Graph","makeEmpty","(I)V"⟩ prog_4_method_2_code 2 (none : Option FieldType) ∈ tbG := tbG_in (List.mem_of_getElem? (i := 283) (by decide +kernel)) rfl
theorem m_284 : Cond.methodLink "IharaZeta" 112 ⟨"IharaZeta$EdgeText","readInto","(LIharaZeta$Graph;)I"⟩ ∈ tbG := tbG_in (List.mem_of_getElem? (i := 284) (by decide +kernel)) rfl
theorem m_285 : Cond.instanceMethod ⟨"IharaZeta$EdgeText","readInto","(LIharaZeta$Graph;)I"⟩ ∈ tbG := tbG_in (List.mem_of_getElem? (i := 285) (by decide +kernel)) rfl
theorem m_286 : Cond.selects "IharaZeta$EdgeText" ⟨"IharaZeta$EdgeText","readInto","(LIharaZeta$Graph;)I"⟩ ⟨"IharaZeta$EdgeText","readInto","(LIharaZeta$Graph;)I"⟩ ∈ tbG := tbG_in (List.mem_of_getElem? (i := 286) (by decide +kernel)) rfl
theorem m_287 : Cond.code ⟨"IharaZeta$EdgeText","readInto","(LIharaZeta$Graph;)I"⟩ prog_3_method_3_code 4 (some FieldType.int) ∈ tbG := tbG_in (List.mem_of_getElem? (i := 287) (by decide +kernel)) rfl
theorem m_288 : Cond.methodLink "IharaZeta$EdgeText" 22 ⟨"IharaZeta$EdgeText","accept","(ILIharaZeta$Graph;)Z"⟩ ∈ tbG := tbG_in (List.mem_of_getElem? (i := 288) (by decide +kernel)) rfl
theorem m_290 : Cond.instanceMethod ⟨"IharaZeta$EdgeText","accept","(ILIharaZeta$Graph;)Z"⟩ ∈ tbG := tbG_in (List.mem_of_getElem? (i := 290) (by decide +kernel)) rfl
theorem m_291 : Cond.code ⟨"IharaZeta$EdgeText","accept","(ILIharaZeta$Graph;)Z"⟩ prog_3_method_4_code 3 (some FieldType.boolean) ∈ tbG := tbG_in (List.mem_of_getElem? (i := 291) (by decide +kernel)) rfl
theorem m_292 : Cond.methodLink "IharaZeta$EdgeText" 26 ⟨"IharaZeta$EdgeText","acceptFirst","(ILIharaZeta$Graph;)Z"⟩ ∈ tbG := tbG_in (List.mem_of_getElem? (i := 292) (by decide +kernel)) rfl
theorem m_294 : Cond.instanceMethod ⟨"IharaZeta$EdgeText","acceptFirst","(ILIharaZeta$Graph;)Z"⟩ ∈ tbG := tbG_in (List.mem_of_getElem? (i := 294) (by decide +kernel)) rfl
theorem m_295 : Cond.code ⟨"IharaZeta$EdgeText","acceptFirst","(ILIharaZeta$Graph;)Z"⟩ prog_3_method_5_code 3 (some FieldType.boolean) ∈ tbG := tbG_in (List.mem_of_getElem? (i := 295) (by decide +kernel)) rfl
theorem m_296 : Cond.methodLink "IharaZeta$EdgeText" 39 ⟨"IharaZeta$Graph","isFull","()Z"⟩ ∈ tbG := tbG_in (List.mem_of_getElem? (i := 296) (by decide +kernel)) rfl
theorem m_297 : Cond.methodLink "IharaZeta$EdgeText" 45 ⟨"IharaZeta$Graph","hasVertex","(I)Z"⟩ ∈ tbG := tbG_in (List.mem_of_getElem? (i := 297) (by decide +kernel)) rfl
theorem m_298 : Cond.methodLink "IharaZeta$EdgeText" 29 ⟨"IharaZeta$EdgeText","acceptSign","(I)Z"⟩ ∈ tbG := tbG_in (List.mem_of_getElem? (i := 298) (by decide +kernel)) rfl
theorem m_300 : Cond.instanceMethod ⟨"IharaZeta$EdgeText","acceptSign","(I)Z"⟩ ∈ tbG := tbG_in (List.mem_of_getElem? (i := 300) (by decide +kernel)) rfl
theorem m_301 : Cond.code ⟨"IharaZeta$EdgeText","acceptSign","(I)Z"⟩ prog_3_method_6_code 2 (some FieldType.boolean) ∈ tbG := tbG_in (List.mem_of_getElem? (i := 301) (by decide +kernel)) rfl
theorem m_302 : Cond.methodLink "IharaZeta$EdgeText" 33 ⟨"IharaZeta$EdgeText","acceptSecond","(ILIharaZeta$Graph;)Z"⟩ ∈ tbG := tbG_in (List.mem_of_getElem? (i := 302) (by decide +kernel)) rfl
theorem m_304 : Cond.instanceMethod ⟨"IharaZeta$EdgeText","acceptSecond","(ILIharaZeta$Graph;)Z"⟩ ∈ tbG := tbG_in (List.mem_of_getElem? (i := 304) (by decide +kernel)) rfl
theorem m_305 : Cond.code ⟨"IharaZeta$EdgeText","acceptSecond","(ILIharaZeta$Graph;)Z"⟩ prog_3_method_7_code 3 (some FieldType.boolean) ∈ tbG := tbG_in (List.mem_of_getElem? (i := 305) (by decide +kernel)) rfl
theorem m_306 : Cond.methodLink "IharaZeta$EdgeText" 36 ⟨"IharaZeta$EdgeText","acceptEnd","(ILIharaZeta$Graph;)Z"⟩ ∈ tbG := tbG_in (List.mem_of_getElem? (i := 306) (by decide +kernel)) rfl
theorem m_308 : Cond.instanceMethod ⟨"IharaZeta$EdgeText","acceptEnd","(ILIharaZeta$Graph;)Z"⟩ ∈ tbG := tbG_in (List.mem_of_getElem? (i := 308) (by decide +kernel)) rfl
theorem m_309 : Cond.code ⟨"IharaZeta$EdgeText","acceptEnd","(ILIharaZeta$Graph;)Z"⟩ prog_3_method_8_code 3 (some FieldType.boolean) ∈ tbG := tbG_in (List.mem_of_getElem? (i := 309) (by decide +kernel)) rfl
theorem m_310 : Cond.methodLink "IharaZeta$EdgeText" 57 ⟨"IharaZeta$Graph","append","(III)V"⟩ ∈ tbG := tbG_in (List.mem_of_getElem? (i := 310) (by decide +kernel)) rfl
theorem m_311 : Cond.methodLink "IharaZeta" 116 ⟨"IharaZeta$Graph","copyFrom","(LIharaZeta$Graph;)V"⟩ ∈ tbG := tbG_in (List.mem_of_getElem? (i := 311) (by decide +kernel)) rfl
theorem m_312 : Cond.methodLink "IharaZetaLaw" 199 ⟨"IharaZeta","undo","()I"⟩ ∈ tbG := tbG_in (List.mem_of_getElem? (i := 312) (by decide +kernel)) rfl
theorem m_313 : Cond.instanceMethod ⟨"IharaZeta","undo","()I"⟩ ∈ tbG := tbG_in (List.mem_of_getElem? (i := 313) (by decide +kernel)) rfl
theorem m_314 : Cond.selects "IharaZeta" ⟨"IharaZeta","undo","()I"⟩ ⟨"IharaZeta","undo","()I"⟩ ∈ tbG := tbG_in (List.mem_of_getElem? (i := 314) (by decide +kernel)) rfl
theorem m_315 : Cond.code ⟨"IharaZeta","undo","()I"⟩ prog_1_method_9_code 1 (some FieldType.int) ∈ tbG := tbG_in (List.mem_of_getElem? (i := 315) (by decide +kernel)) rfl
theorem m_316 : Cond.methodLink "IharaZeta" 122 ⟨"IharaZeta$History","restore","(LIharaZeta$Graph;)V"⟩ ∈ tbG := tbG_in (List.mem_of_getElem? (i := 316) (by decide +kernel)) rfl
theorem m_317 : Cond.instanceMethod ⟨"IharaZeta$History","restore","(LIharaZeta$Graph;)V"⟩ ∈ tbG := tbG_in (List.mem_of_getElem? (i := 317) (by decide +kernel)) rfl
theorem m_318 : Cond.selects "IharaZeta$History" ⟨"IharaZeta$History","restore","(LIharaZeta$Graph;)V"⟩ ⟨"IharaZeta$History","restore","(LIharaZeta$Graph;)V"⟩ ∈ tbG := tbG_in (List.mem_of_getElem? (i := 318) (by decide +kernel)) rfl
theorem m_319 : Cond.code ⟨"IharaZeta$History","restore","(LIharaZeta$Graph;)V"⟩ prog_6_method_3_code 2 (none : Option FieldType) ∈ tbG := tbG_in (List.mem_of_getElem? (i := 319) (by decide +kernel)) rfl
theorem m_320 : Cond.methodLink "IharaZetaLaw" 9 ⟨"IharaZeta","vertexCount","()I"⟩ ∈ tbG := tbG_in (List.mem_of_getElem? (i := 320) (by decide +kernel)) rfl
theorem m_321 : Cond.instanceMethod ⟨"IharaZeta","vertexCount","()I"⟩ ∈ tbG := tbG_in (List.mem_of_getElem? (i := 321) (by decide +kernel)) rfl
theorem m_322 : Cond.selects "IharaZeta" ⟨"IharaZeta","vertexCount","()I"⟩ ⟨"IharaZeta","vertexCount","()I"⟩ ∈ tbG := tbG_in (List.mem_of_getElem? (i := 322) (by decide +kernel)) rfl
theorem m_323 : Cond.code ⟨"IharaZeta","vertexCount","()I"⟩ prog_1_method_10_code 1 (some FieldType.int) ∈ tbG := tbG_in (List.mem_of_getElem? (i := 323) (by decide +kernel)) rfl
theorem m_324 : Cond.methodLink "IharaZetaLaw" 41 ⟨"IharaZeta","edgeCount","()I"⟩ ∈ tbG := tbG_in (List.mem_of_getElem? (i := 324) (by decide +kernel)) rfl
theorem m_325 : Cond.instanceMethod ⟨"IharaZeta","edgeCount","()I"⟩ ∈ tbG := tbG_in (List.mem_of_getElem? (i := 325) (by decide +kernel)) rfl
theorem m_326 : Cond.selects "IharaZeta" ⟨"IharaZeta","edgeCount","()I"⟩ ⟨"IharaZeta","edgeCount","()I"⟩ ∈ tbG := tbG_in (List.mem_of_getElem? (i := 326) (by decide +kernel)) rfl
theorem m_327 : Cond.code ⟨"IharaZeta","edgeCount","()I"⟩ prog_1_method_11_code 1 (some FieldType.int) ∈ tbG := tbG_in (List.mem_of_getElem? (i := 327) (by decide +kernel)) rfl
theorem m_328 : Cond.methodLink "IharaZetaLaw" 25 ⟨"IharaZetaLaw","part","(II)I"⟩ ∈ tbG := tbG_in (List.mem_of_getElem? (i := 328) (by decide +kernel)) rfl
theorem m_329 : Cond.static ⟨"IharaZetaLaw","part","(II)I"⟩ ∈ tbG := tbG_in (List.mem_of_getElem? (i := 329) (by decide +kernel)) rfl
theorem m_330 : Cond.code ⟨"IharaZetaLaw","part","(II)I"⟩ method_2_code 2 (some FieldType.int) ∈ tbG := tbG_in (List.mem_of_getElem? (i := 330) (by decide +kernel)) rfl
theorem m_331 : Cond.constant "IharaZetaLaw" 7 (2147483647 : Int32) ∈ tbG := tbG_in (List.mem_of_getElem? (i := 331) (by decide +kernel)) rfl
theorem m_332 : Cond.methodLink "IharaZetaLaw" 19 ⟨"IharaZetaLaw","cell","([II)I"⟩ ∈ tbG := tbG_in (List.mem_of_getElem? (i := 332) (by decide +kernel)) rfl
theorem m_333 : Cond.static ⟨"IharaZetaLaw","cell","([II)I"⟩ ∈ tbG := tbG_in (List.mem_of_getElem? (i := 333) (by decide +kernel)) rfl
theorem m_334 : Cond.code ⟨"IharaZetaLaw","cell","([II)I"⟩ method_3_code 2 (some FieldType.int) ∈ tbG := tbG_in (List.mem_of_getElem? (i := 334) (by decide +kernel)) rfl
theorem m_335 : Cond.constant "IharaZetaLaw" 8 (2654435 : Int32) ∈ tbG := tbG_in (List.mem_of_getElem? (i := 335) (by decide +kernel)) rfl
theorem m_336 : Cond.methodLink "IharaZetaLaw" 212 ⟨"IharaZetaLaw","builds","(LIharaZeta;[I[IIII)Z"⟩ ∈ tbG := tbG_in (List.mem_of_getElem? (i := 336) (by decide +kernel)) rfl
theorem m_337 : Cond.static ⟨"IharaZetaLaw","builds","(LIharaZeta;[I[IIII)Z"⟩ ∈ tbG := tbG_in (List.mem_of_getElem? (i := 337) (by decide +kernel)) rfl
theorem m_338 : Cond.code ⟨"IharaZetaLaw","builds","(LIharaZeta;[I[IIII)Z"⟩ method_4_code 13 (some FieldType.boolean) ∈ tbG := tbG_in (List.mem_of_getElem? (i := 338) (by decide +kernel)) rfl
theorem m_339 : Cond.methodLink "IharaZetaLaw" 15 ⟨"IharaZeta","configure","(I)I"⟩ ∈ tbG := tbG_in (List.mem_of_getElem? (i := 339) (by decide +kernel)) rfl
theorem m_340 : Cond.instanceMethod ⟨"IharaZeta","configure","(I)I"⟩ ∈ tbG := tbG_in (List.mem_of_getElem? (i := 340) (by decide +kernel)) rfl
theorem m_341 : Cond.selects "IharaZeta" ⟨"IharaZeta","configure","(I)I"⟩ ⟨"IharaZeta","configure","(I)I"⟩ ∈ tbG := tbG_in (List.mem_of_getElem? (i := 341) (by decide +kernel)) rfl
theorem m_342 : Cond.code ⟨"IharaZeta","configure","(I)I"⟩ prog_1_method_2_code 3 (some FieldType.int) ∈ tbG := tbG_in (List.mem_of_getElem? (i := 342) (by decide +kernel)) rfl
theorem m_343 : Cond.methodLink "IharaZetaLaw" 57 ⟨"IharaZetaLaw","digest","(LIharaZeta;)J"⟩ ∈ tbG := tbG_in (List.mem_of_getElem? (i := 343) (by decide +kernel)) rfl
theorem m_344 : Cond.static ⟨"IharaZetaLaw","digest","(LIharaZeta;)J"⟩ ∈ tbG := tbG_in (List.mem_of_getElem? (i := 344) (by decide +kernel)) rfl
theorem m_345 : Cond.code ⟨"IharaZetaLaw","digest","(LIharaZeta;)J"⟩ method_8_code 4 (some FieldType.long) ∈ tbG := tbG_in (List.mem_of_getElem? (i := 345) (by decide +kernel)) rfl
theorem m_346 : Cond.constantLong "IharaZetaLaw" 39 (31 : Int64) ∈ tbG := tbG_in (List.mem_of_getElem? (i := 346) (by decide +kernel)) rfl
theorem m_347 : Cond.methodLink "IharaZetaLaw" 44 ⟨"IharaZeta","headOf","(I)I"⟩ ∈ tbG := tbG_in (List.mem_of_getElem? (i := 347) (by decide +kernel)) rfl
theorem m_348 : Cond.instanceMethod ⟨"IharaZeta","headOf","(I)I"⟩ ∈ tbG := tbG_in (List.mem_of_getElem? (i := 348) (by decide +kernel)) rfl
theorem m_349 : Cond.selects "IharaZeta" ⟨"IharaZeta","headOf","(I)I"⟩ ⟨"IharaZeta","headOf","(I)I"⟩ ∈ tbG := tbG_in (List.mem_of_getElem? (i := 349) (by decide +kernel)) rfl
theorem m_350 : Cond.code ⟨"IharaZeta","headOf","(I)I"⟩ prog_1_method_12_code 2 (some FieldType.int) ∈ tbG := tbG_in (List.mem_of_getElem? (i := 350) (by decide +kernel)) rfl
theorem m_351 : Cond.methodLink "IharaZeta" 125 ⟨"IharaZeta$Graph","hasDirected","(I)Z"⟩ ∈ tbG := tbG_in (List.mem_of_getElem? (i := 351) (by decide +kernel)) rfl
theorem m_352 : Cond.instanceMethod ⟨"IharaZeta$Graph","hasDirected","(I)Z"⟩ ∈ tbG := tbG_in (List.mem_of_getElem? (i := 352) (by decide +kernel)) rfl
theorem m_353 : Cond.selects "IharaZeta$Graph" ⟨"IharaZeta$Graph","hasDirected","(I)Z"⟩ ⟨"IharaZeta$Graph","hasDirected","(I)Z"⟩ ∈ tbG := tbG_in (List.mem_of_getElem? (i := 353) (by decide +kernel)) rfl
theorem m_354 : Cond.code ⟨"IharaZeta$Graph","hasDirected","(I)Z"⟩ prog_4_method_7_code 2 (some FieldType.boolean) ∈ tbG := tbG_in (List.mem_of_getElem? (i := 354) (by decide +kernel)) rfl
theorem m_355 : Cond.methodLink "IharaZeta" 128 ⟨"IharaZeta$Graph","endOf","(I)I"⟩ ∈ tbG := tbG_in (List.mem_of_getElem? (i := 355) (by decide +kernel)) rfl
theorem m_356 : Cond.instanceMethod ⟨"IharaZeta$Graph","endOf","(I)I"⟩ ∈ tbG := tbG_in (List.mem_of_getElem? (i := 356) (by decide +kernel)) rfl
theorem m_357 : Cond.selects "IharaZeta$Graph" ⟨"IharaZeta$Graph","endOf","(I)I"⟩ ⟨"IharaZeta$Graph","endOf","(I)I"⟩ ∈ tbG := tbG_in (List.mem_of_getElem? (i := 357) (by decide +kernel)) rfl
theorem m_358 : Cond.code ⟨"IharaZeta$Graph","endOf","(I)I"⟩ prog_4_method_11_code 2 (some FieldType.int) ∈ tbG := tbG_in (List.mem_of_getElem? (i := 358) (by decide +kernel)) rfl
theorem m_359 : Cond.methodLink "IharaZetaLaw" 47 ⟨"IharaZeta","signedWalks","(I)J"⟩ ∈ tbG := tbG_in (List.mem_of_getElem? (i := 359) (by decide +kernel)) rfl
theorem m_360 : Cond.instanceMethod ⟨"IharaZeta","signedWalks","(I)J"⟩ ∈ tbG := tbG_in (List.mem_of_getElem? (i := 360) (by decide +kernel)) rfl
theorem m_361 : Cond.selects "IharaZeta" ⟨"IharaZeta","signedWalks","(I)J"⟩ ⟨"IharaZeta","signedWalks","(I)J"⟩ ∈ tbG := tbG_in (List.mem_of_getElem? (i := 361) (by decide +kernel)) rfl
theorem m_362 : Cond.code ⟨"IharaZeta","signedWalks","(I)J"⟩ prog_1_method_19_code 2 (some FieldType.long) ∈ tbG := tbG_in (List.mem_of_getElem? (i := 362) (by decide +kernel)) rfl
theorem m_363 : Cond.methodLink "IharaZeta" 146 ⟨"IharaZeta","isWalkLength","(I)Z"⟩ ∈ tbG := tbG_in (List.mem_of_getElem? (i := 363) (by decide +kernel)) rfl
theorem m_364 : Cond.static ⟨"IharaZeta","isWalkLength","(I)Z"⟩ ∈ tbG := tbG_in (List.mem_of_getElem? (i := 364) (by decide +kernel)) rfl
theorem m_365 : Cond.code ⟨"IharaZeta","isWalkLength","(I)Z"⟩ prog_1_method_37_code 1 (some FieldType.boolean) ∈ tbG := tbG_in (List.mem_of_getElem? (i := 365) (by decide +kernel)) rfl
theorem m_366 : Cond.constantLong "IharaZeta" 149 (-9223372036854775808 : Int64) ∈ tbG := tbG_in (List.mem_of_getElem? (i := 366) (by decide +kernel)) rfl
theorem m_367 : Cond.methodLink "IharaZeta" 158 ⟨"IharaZeta$WalkCounter","countClosedSigned","(LIharaZeta$Graph;)V"⟩ ∈ tbG := tbG_in (List.mem_of_getElem? (i := 367) (by decide +kernel)) rfl
theorem m_368 : Cond.instanceMethod ⟨"IharaZeta$WalkCounter","countClosedSigned","(LIharaZeta$Graph;)V"⟩ ∈ tbG := tbG_in (List.mem_of_getElem? (i := 368) (by decide +kernel)) rfl
theorem m_369 : Cond.selects "IharaZeta$WalkCounter" ⟨"IharaZeta$WalkCounter","countClosedSigned","(LIharaZeta$Graph;)V"⟩ ⟨"IharaZeta$WalkCounter","countClosedSigned","(LIharaZeta$Graph;)V"⟩ ∈ tbG := tbG_in (List.mem_of_getElem? (i := 369) (by decide +kernel)) rfl
theorem m_370 : Cond.code ⟨"IharaZeta$WalkCounter","countClosedSigned","(LIharaZeta$Graph;)V"⟩ prog_9_method_3_code 2 (none : Option FieldType) ∈ tbG := tbG_in (List.mem_of_getElem? (i := 370) (by decide +kernel)) rfl
theorem m_371 : Cond.methodLink "IharaZeta$WalkCounter" 30 ⟨"IharaZeta$WalkCounter","addReturns","(LIharaZeta$Graph;Z[J)V"⟩ ∈ tbG := tbG_in (List.mem_of_getElem? (i := 371) (by decide +kernel)) rfl
theorem m_373 : Cond.instanceMethod ⟨"IharaZeta$WalkCounter","addReturns","(LIharaZeta$Graph;Z[J)V"⟩ ∈ tbG := tbG_in (List.mem_of_getElem? (i := 373) (by decide +kernel)) rfl
theorem m_374 : Cond.code ⟨"IharaZeta$WalkCounter","addReturns","(LIharaZeta$Graph;Z[J)V"⟩ prog_9_method_6_code 7 (none : Option FieldType) ∈ tbG := tbG_in (List.mem_of_getElem? (i := 374) (by decide +kernel)) rfl
theorem m_375 : Cond.methodLink "IharaZeta$WalkCounter" 44 ⟨"java/util/Arrays","fill","([JJ)V"⟩ ∈ tbG := tbG_in (List.mem_of_getElem? (i := 375) (by decide +kernel)) rfl
theorem m_376 : Cond.static ⟨"java/util/Arrays","fill","([JJ)V"⟩ ∈ tbG := tbG_in (List.mem_of_getElem? (i := 376) (by decide +kernel)) rfl
theorem m_377 : Cond.code ⟨"java/util/Arrays","fill","([JJ)V"⟩ prog_14_method_101_code 5 (none : Option FieldType) ∈ tbG := tbG_in (List.mem_of_getElem? (i := 377) (by decide +kernel)) rfl
theorem m_378 : Cond.methodLink "IharaZeta$WalkCounter" 56 ⟨"IharaZeta$WalkCounter","goOn","(LIharaZeta$Graph;Z)V"⟩ ∈ tbG := tbG_in (List.mem_of_getElem? (i := 378) (by decide +kernel)) rfl
theorem m_380 : Cond.instanceMethod ⟨"IharaZeta$WalkCounter","goOn","(LIharaZeta$Graph;Z)V"⟩ ∈ tbG := tbG_in (List.mem_of_getElem? (i := 380) (by decide +kernel)) rfl
theorem m_381 : Cond.code ⟨"IharaZeta$WalkCounter","goOn","(LIharaZeta$Graph;Z)V"⟩ prog_9_method_7_code 12 (none : Option FieldType) ∈ tbG := tbG_in (List.mem_of_getElem? (i := 381) (by decide +kernel)) rfl
theorem m_382 : Cond.methodLink "IharaZeta$WalkCounter" 62 ⟨"IharaZeta$Graph","endOf","(I)I"⟩ ∈ tbG := tbG_in (List.mem_of_getElem? (i := 382) (by decide +kernel)) rfl
theorem m_383 : Cond.methodLink "IharaZeta$WalkCounter" 70 ⟨"IharaZeta$Graph","startOf","(I)I"⟩ ∈ tbG := tbG_in (List.mem_of_getElem? (i := 383) (by decide +kernel)) rfl
theorem m_384 : Cond.instanceMethod ⟨"IharaZeta$Graph","startOf","(I)I"⟩ ∈ tbG := tbG_in (List.mem_of_getElem? (i := 384) (by decide +kernel)) rfl
theorem m_385 : Cond.selects "IharaZeta$Graph" ⟨"IharaZeta$Graph","startOf","(I)I"⟩ ⟨"IharaZeta$Graph","startOf","(I)I"⟩ ∈ tbG := tbG_in (List.mem_of_getElem? (i := 385) (by decide +kernel)) rfl
theorem m_386 : Cond.code ⟨"IharaZeta$Graph","startOf","(I)I"⟩ prog_4_method_10_code 2 (some FieldType.int) ∈ tbG := tbG_in (List.mem_of_getElem? (i := 386) (by decide +kernel)) rfl
theorem m_387 : Cond.constantLong "IharaZeta$WalkCounter" 60 (2 : Int64) ∈ tbG := tbG_in (List.mem_of_getElem? (i := 387) (by decide +kernel)) rfl
theorem m_388 : Cond.methodLink "IharaZetaLaw" 51 ⟨"IharaZeta","walks","(I)J"⟩ ∈ tbG := tbG_in (List.mem_of_getElem? (i := 388) (by decide +kernel)) rfl
theorem m_389 : Cond.instanceMethod ⟨"IharaZeta","walks","(I)J"⟩ ∈ tbG := tbG_in (List.mem_of_getElem? (i := 389) (by decide +kernel)) rfl
theorem m_390 : Cond.selects "IharaZeta" ⟨"IharaZeta","walks","(I)J"⟩ ⟨"IharaZeta","walks","(I)J"⟩ ∈ tbG := tbG_in (List.mem_of_getElem? (i := 390) (by decide +kernel)) rfl
theorem m_391 : Cond.code ⟨"IharaZeta","walks","(I)J"⟩ prog_1_method_18_code 2 (some FieldType.long) ∈ tbG := tbG_in (List.mem_of_getElem? (i := 391) (by decide +kernel)) rfl
theorem m_392 : Cond.methodLink "IharaZeta" 151 ⟨"IharaZeta$WalkCounter","countClosed","(LIharaZeta$Graph;)V"⟩ ∈ tbG := tbG_in (List.mem_of_getElem? (i := 392) (by decide +kernel)) rfl
theorem m_393 : Cond.instanceMethod ⟨"IharaZeta$WalkCounter","countClosed","(LIharaZeta$Graph;)V"⟩ ∈ tbG := tbG_in (List.mem_of_getElem? (i := 393) (by decide +kernel)) rfl
theorem m_394 : Cond.selects "IharaZeta$WalkCounter" ⟨"IharaZeta$WalkCounter","countClosed","(LIharaZeta$Graph;)V"⟩ ⟨"IharaZeta$WalkCounter","countClosed","(LIharaZeta$Graph;)V"⟩ ∈ tbG := tbG_in (List.mem_of_getElem? (i := 394) (by decide +kernel)) rfl
theorem m_395 : Cond.code ⟨"IharaZeta$WalkCounter","countClosed","(LIharaZeta$Graph;)V"⟩ prog_9_method_2_code 2 (none : Option FieldType) ∈ tbG := tbG_in (List.mem_of_getElem? (i := 395) (by decide +kernel)) rfl
theorem m_396 : Cond.methodLink "IharaZetaLaw" 54 ⟨"IharaZeta","isBalanced","()I"⟩ ∈ tbG := tbG_in (List.mem_of_getElem? (i := 396) (by decide +kernel)) rfl
theorem m_397 : Cond.instanceMethod ⟨"IharaZeta","isBalanced","()I"⟩ ∈ tbG := tbG_in (List.mem_of_getElem? (i := 397) (by decide +kernel)) rfl
theorem m_398 : Cond.selects "IharaZeta" ⟨"IharaZeta","isBalanced","()I"⟩ ⟨"IharaZeta","isBalanced","()I"⟩ ∈ tbG := tbG_in (List.mem_of_getElem? (i := 398) (by decide +kernel)) rfl
theorem m_399 : Cond.code ⟨"IharaZeta","isBalanced","()I"⟩ prog_1_method_17_code 1 (some FieldType.int) ∈ tbG := tbG_in (List.mem_of_getElem? (i := 399) (by decide +kernel)) rfl
theorem m_400 : Cond.methodLink "IharaZeta" 142 ⟨"IharaZeta$Grouping","canDivide","(LIharaZeta$Graph;)Z"⟩ ∈ tbG := tbG_in (List.mem_of_getElem? (i := 400) (by decide +kernel)) rfl
theorem m_401 : Cond.instanceMethod ⟨"IharaZeta$Grouping","canDivide","(LIharaZeta$Graph;)Z"⟩ ∈ tbG := tbG_in (List.mem_of_getElem? (i := 401) (by decide +kernel)) rfl
theorem m_402 : Cond.selects "IharaZeta$Grouping" ⟨"IharaZeta$Grouping","canDivide","(LIharaZeta$Graph;)Z"⟩ ⟨"IharaZeta$Grouping","canDivide","(LIharaZeta$Graph;)Z"⟩ ∈ tbG := tbG_in (List.mem_of_getElem? (i := 402) (by decide +kernel)) rfl
theorem m_403 : Cond.code ⟨"IharaZeta$Grouping","canDivide","(LIharaZeta$Graph;)Z"⟩ prog_5_method_3_code 3 (some FieldType.boolean) ∈ tbG := tbG_in (List.mem_of_getElem? (i := 403) (by decide +kernel)) rfl
theorem m_404 : Cond.methodLink "IharaZeta$Grouping" 18 ⟨"IharaZeta$Grouping","separate","()V"⟩ ∈ tbG := tbG_in (List.mem_of_getElem? (i := 404) (by decide +kernel)) rfl
theorem m_406 : Cond.instanceMethod ⟨"IharaZeta$Grouping","separate","()V"⟩ ∈ tbG := tbG_in (List.mem_of_getElem? (i := 406) (by decide +kernel)) rfl
theorem m_407 : Cond.code ⟨"IharaZeta$Grouping","separate","()V"⟩ prog_5_method_6_code 2 (none : Option FieldType) ∈ tbG := tbG_in (List.mem_of_getElem? (i := 407) (by decide +kernel)) rfl
theorem m_408 : Cond.methodLink "IharaZeta$Grouping" 30 ⟨"IharaZeta$Grouping","unite","(LIharaZeta$Graph;I)Z"⟩ ∈ tbG := tbG_in (List.mem_of_getElem? (i := 408) (by decide +kernel)) rfl
theorem m_410 : Cond.instanceMethod ⟨"IharaZeta$Grouping","unite","(LIharaZeta$Graph;I)Z"⟩ ∈ tbG := tbG_in (List.mem_of_getElem? (i := 410) (by decide +kernel)) rfl
theorem m_411 : Cond.code ⟨"IharaZeta$Grouping","unite","(LIharaZeta$Graph;I)Z"⟩ prog_5_method_7_code 7 (some FieldType.boolean) ∈ tbG := tbG_in (List.mem_of_getElem? (i := 411) (by decide +kernel)) rfl
theorem m_412 : Cond.methodLink "IharaZeta$Grouping" 34 ⟨"IharaZeta$Grouping","turnFor","(LIharaZeta$Graph;I)I"⟩ ∈ tbG := tbG_in (List.mem_of_getElem? (i := 412) (by decide +kernel)) rfl
theorem m_414 : Cond.instanceMethod ⟨"IharaZeta$Grouping","turnFor","(LIharaZeta$Graph;I)I"⟩ ∈ tbG := tbG_in (List.mem_of_getElem? (i := 414) (by decide +kernel)) rfl
theorem m_415 : Cond.code ⟨"IharaZeta$Grouping","turnFor","(LIharaZeta$Graph;I)I"⟩ prog_5_method_8_code 4 (some FieldType.int) ∈ tbG := tbG_in (List.mem_of_getElem? (i := 415) (by decide +kernel)) rfl
theorem m_416 : Cond.methodLink "IharaZetaLaw" 202 ⟨"IharaZetaLaw","refused","(LIharaZeta;)Z"⟩ ∈ tbG := tbG_in (List.mem_of_getElem? (i := 416) (by decide +kernel)) rfl
theorem m_417 : Cond.static ⟨"IharaZetaLaw","refused","(LIharaZeta;)Z"⟩ ∈ tbG := tbG_in (List.mem_of_getElem? (i := 417) (by decide +kernel)) rfl
theorem m_418 : Cond.code ⟨"IharaZetaLaw","refused","(LIharaZeta;)Z"⟩ method_9_code 5 (some FieldType.boolean) ∈ tbG := tbG_in (List.mem_of_getElem? (i := 418) (by decide +kernel)) rfl
theorem m_419 : Cond.methodLink "IharaZetaLaw" 67 ⟨"IharaZeta","appendCharacter","(I)I"⟩ ∈ tbG := tbG_in (List.mem_of_getElem? (i := 419) (by decide +kernel)) rfl
theorem m_420 : Cond.instanceMethod ⟨"IharaZeta","appendCharacter","(I)I"⟩ ∈ tbG := tbG_in (List.mem_of_getElem? (i := 420) (by decide +kernel)) rfl
theorem m_421 : Cond.selects "IharaZeta" ⟨"IharaZeta","appendCharacter","(I)I"⟩ ⟨"IharaZeta","appendCharacter","(I)I"⟩ ∈ tbG := tbG_in (List.mem_of_getElem? (i := 421) (by decide +kernel)) rfl
theorem m_422 : Cond.code ⟨"IharaZeta","appendCharacter","(I)I"⟩ prog_1_method_6_code 2 (some FieldType.int) ∈ tbG := tbG_in (List.mem_of_getElem? (i := 422) (by decide +kernel)) rfl
theorem m_423 : Cond.methodLink "IharaZeta" 110 ⟨"IharaZeta$EdgeText","append","(I)V"⟩ ∈ tbG := tbG_in (List.mem_of_getElem? (i := 423) (by decide +kernel)) rfl
theorem m_424 : Cond.instanceMethod ⟨"IharaZeta$EdgeText","append","(I)V"⟩ ∈ tbG := tbG_in (List.mem_of_getElem? (i := 424) (by decide +kernel)) rfl
theorem m_425 : Cond.selects "IharaZeta$EdgeText" ⟨"IharaZeta$EdgeText","append","(I)V"⟩ ⟨"IharaZeta$EdgeText","append","(I)V"⟩ ∈ tbG := tbG_in (List.mem_of_getElem? (i := 425) (by decide +kernel)) rfl
theorem m_426 : Cond.code ⟨"IharaZeta$EdgeText","append","(I)V"⟩ prog_3_method_2_code 2 (none : Option FieldType) ∈ tbG := tbG_in (List.mem_of_getElem? (i := 426) (by decide +kernel)) rfl
theorem m_427 : Cond.methodLink "IharaZetaLaw" 70 ⟨"IharaZeta","follows","(II)I"⟩ ∈ tbG := tbG_in (List.mem_of_getElem? (i := 427) (by decide +kernel)) rfl
theorem m_428 : Cond.instanceMethod ⟨"IharaZeta","follows","(II)I"⟩ ∈ tbG := tbG_in (List.mem_of_getElem? (i := 428) (by decide +kernel)) rfl
theorem m_429 : Cond.selects "IharaZeta" ⟨"IharaZeta","follows","(II)I"⟩ ⟨"IharaZeta","follows","(II)I"⟩ ∈ tbG := tbG_in (List.mem_of_getElem? (i := 429) (by decide +kernel)) rfl
theorem m_430 : Cond.code ⟨"IharaZeta","follows","(II)I"⟩ prog_1_method_13_code 3 (some FieldType.int) ∈ tbG := tbG_in (List.mem_of_getElem? (i := 430) (by decide +kernel)) rfl
theorem m_431 : Cond.methodLink "IharaZeta" 132 ⟨"IharaZeta$Graph","leadsOn","(II)Z"⟩ ∈ tbG := tbG_in (List.mem_of_getElem? (i := 431) (by decide +kernel)) rfl
theorem m_432 : Cond.instanceMethod ⟨"IharaZeta$Graph","leadsOn","(II)Z"⟩ ∈ tbG := tbG_in (List.mem_of_getElem? (i := 432) (by decide +kernel)) rfl
theorem m_433 : Cond.selects "IharaZeta$Graph" ⟨"IharaZeta$Graph","leadsOn","(II)Z"⟩ ⟨"IharaZeta$Graph","leadsOn","(II)Z"⟩ ∈ tbG := tbG_in (List.mem_of_getElem? (i := 433) (by decide +kernel)) rfl
theorem m_434 : Cond.code ⟨"IharaZeta$Graph","leadsOn","(II)Z"⟩ prog_4_method_12_code 3 (some FieldType.boolean) ∈ tbG := tbG_in (List.mem_of_getElem? (i := 434) (by decide +kernel)) rfl
theorem m_435 : Cond.methodLink "IharaZeta$Graph" 32 ⟨"IharaZeta$Graph","endOf","(I)I"⟩ ∈ tbG := tbG_in (List.mem_of_getElem? (i := 435) (by decide +kernel)) rfl
theorem m_436 : Cond.methodLink "IharaZeta$Graph" 36 ⟨"IharaZeta$Graph","startOf","(I)I"⟩ ∈ tbG := tbG_in (List.mem_of_getElem? (i := 436) (by decide +kernel)) rfl
theorem m_437 : Cond.methodLink "IharaZetaLaw" 73 ⟨"IharaZeta","degree","(I)I"⟩ ∈ tbG := tbG_in (List.mem_of_getElem? (i := 437) (by decide +kernel)) rfl
theorem m_438 : Cond.instanceMethod ⟨"IharaZeta","degree","(I)I"⟩ ∈ tbG := tbG_in (List.mem_of_getElem? (i := 438) (by decide +kernel)) rfl
theorem m_439 : Cond.selects "IharaZeta" ⟨"IharaZeta","degree","(I)I"⟩ ⟨"IharaZeta","degree","(I)I"⟩ ∈ tbG := tbG_in (List.mem_of_getElem? (i := 439) (by decide +kernel)) rfl
theorem m_440 : Cond.code ⟨"IharaZeta","degree","(I)I"⟩ prog_1_method_14_code 2 (some FieldType.int) ∈ tbG := tbG_in (List.mem_of_getElem? (i := 440) (by decide +kernel)) rfl
theorem m_441 : Cond.methodLink "IharaZeta" 136 ⟨"IharaZeta$Graph","edgesAt","(I)I"⟩ ∈ tbG := tbG_in (List.mem_of_getElem? (i := 441) (by decide +kernel)) rfl
theorem m_442 : Cond.instanceMethod ⟨"IharaZeta$Graph","edgesAt","(I)I"⟩ ∈ tbG := tbG_in (List.mem_of_getElem? (i := 442) (by decide +kernel)) rfl
theorem m_443 : Cond.selects "IharaZeta$Graph" ⟨"IharaZeta$Graph","edgesAt","(I)I"⟩ ⟨"IharaZeta$Graph","edgesAt","(I)I"⟩ ∈ tbG := tbG_in (List.mem_of_getElem? (i := 443) (by decide +kernel)) rfl
theorem m_444 : Cond.code ⟨"IharaZeta$Graph","edgesAt","(I)I"⟩ prog_4_method_13_code 4 (some FieldType.int) ∈ tbG := tbG_in (List.mem_of_getElem? (i := 444) (by decide +kernel)) rfl
theorem m_445 : Cond.constantLong "IharaZetaLaw" 76 (-9223372036854775808 : Int64) ∈ tbG := tbG_in (List.mem_of_getElem? (i := 445) (by decide +kernel)) rfl
theorem m_446 : Cond.methodLink "IharaZetaLaw" 78 ⟨"IharaZeta","coverWalks","(I)J"⟩ ∈ tbG := tbG_in (List.mem_of_getElem? (i := 446) (by decide +kernel)) rfl
theorem m_447 : Cond.instanceMethod ⟨"IharaZeta","coverWalks","(I)J"⟩ ∈ tbG := tbG_in (List.mem_of_getElem? (i := 447) (by decide +kernel)) rfl
theorem m_448 : Cond.selects "IharaZeta" ⟨"IharaZeta","coverWalks","(I)J"⟩ ⟨"IharaZeta","coverWalks","(I)J"⟩ ∈ tbG := tbG_in (List.mem_of_getElem? (i := 448) (by decide +kernel)) rfl
theorem m_449 : Cond.code ⟨"IharaZeta","coverWalks","(I)J"⟩ prog_1_method_20_code 2 (some FieldType.long) ∈ tbG := tbG_in (List.mem_of_getElem? (i := 449) (by decide +kernel)) rfl
theorem m_450 : Cond.methodLink "IharaZetaLaw" 81 ⟨"IharaZeta","primes","(I)J"⟩ ∈ tbG := tbG_in (List.mem_of_getElem? (i := 450) (by decide +kernel)) rfl
theorem m_451 : Cond.instanceMethod ⟨"IharaZeta","primes","(I)J"⟩ ∈ tbG := tbG_in (List.mem_of_getElem? (i := 451) (by decide +kernel)) rfl
theorem m_452 : Cond.selects "IharaZeta" ⟨"IharaZeta","primes","(I)J"⟩ ⟨"IharaZeta","primes","(I)J"⟩ ∈ tbG := tbG_in (List.mem_of_getElem? (i := 452) (by decide +kernel)) rfl
theorem m_453 : Cond.code ⟨"IharaZeta","primes","(I)J"⟩ prog_1_method_21_code 2 (some FieldType.long) ∈ tbG := tbG_in (List.mem_of_getElem? (i := 453) (by decide +kernel)) rfl
theorem m_454 : Cond.methodLink "IharaZeta" 164 ⟨"IharaZeta$WalkCounter","countPrimitive","(LIharaZeta$Graph;)V"⟩ ∈ tbG := tbG_in (List.mem_of_getElem? (i := 454) (by decide +kernel)) rfl
theorem m_455 : Cond.instanceMethod ⟨"IharaZeta$WalkCounter","countPrimitive","(LIharaZeta$Graph;)V"⟩ ∈ tbG := tbG_in (List.mem_of_getElem? (i := 455) (by decide +kernel)) rfl
theorem m_456 : Cond.selects "IharaZeta$WalkCounter" ⟨"IharaZeta$WalkCounter","countPrimitive","(LIharaZeta$Graph;)V"⟩ ⟨"IharaZeta$WalkCounter","countPrimitive","(LIharaZeta$Graph;)V"⟩ ∈ tbG := tbG_in (List.mem_of_getElem? (i := 456) (by decide +kernel)) rfl
theorem m_457 : Cond.code ⟨"IharaZeta$WalkCounter","countPrimitive","(LIharaZeta$Graph;)V"⟩ prog_9_method_4_code 4 (none : Option FieldType) ∈ tbG := tbG_in (List.mem_of_getElem? (i := 457) (by decide +kernel)) rfl
theorem m_458 : Cond.methodLink "IharaZeta$WalkCounter" 34 ⟨"IharaZeta$WalkCounter","countClosed","(LIharaZeta$Graph;)V"⟩ ∈ tbG := tbG_in (List.mem_of_getElem? (i := 458) (by decide +kernel)) rfl
theorem m_459 : Cond.methodLink "IharaZetaLaw" 84 ⟨"IharaZeta","positivePrimes","(I)J"⟩ ∈ tbG := tbG_in (List.mem_of_getElem? (i := 459) (by decide +kernel)) rfl
theorem m_460 : Cond.instanceMethod ⟨"IharaZeta","positivePrimes","(I)J"⟩ ∈ tbG := tbG_in (List.mem_of_getElem? (i := 460) (by decide +kernel)) rfl
theorem m_461 : Cond.selects "IharaZeta" ⟨"IharaZeta","positivePrimes","(I)J"⟩ ⟨"IharaZeta","positivePrimes","(I)J"⟩ ∈ tbG := tbG_in (List.mem_of_getElem? (i := 461) (by decide +kernel)) rfl
theorem m_462 : Cond.code ⟨"IharaZeta","positivePrimes","(I)J"⟩ prog_1_method_22_code 4 (some FieldType.long) ∈ tbG := tbG_in (List.mem_of_getElem? (i := 462) (by decide +kernel)) rfl
theorem m_463 : Cond.methodLink "IharaZeta" 170 ⟨"IharaZeta$WalkCounter","countPrimitiveSigned","(LIharaZeta$Graph;)V"⟩ ∈ tbG := tbG_in (List.mem_of_getElem? (i := 463) (by decide +kernel)) rfl
theorem m_464 : Cond.instanceMethod ⟨"IharaZeta$WalkCounter","countPrimitiveSigned","(LIharaZeta$Graph;)V"⟩ ∈ tbG := tbG_in (List.mem_of_getElem? (i := 464) (by decide +kernel)) rfl
theorem m_465 : Cond.selects "IharaZeta$WalkCounter" ⟨"IharaZeta$WalkCounter","countPrimitiveSigned","(LIharaZeta$Graph;)V"⟩ ⟨"IharaZeta$WalkCounter","countPrimitiveSigned","(LIharaZeta$Graph;)V"⟩ ∈ tbG := tbG_in (List.mem_of_getElem? (i := 465) (by decide +kernel)) rfl
theorem m_466 : Cond.code ⟨"IharaZeta$WalkCounter","countPrimitiveSigned","(LIharaZeta$Graph;)V"⟩ prog_9_method_5_code 5 (none : Option FieldType) ∈ tbG := tbG_in (List.mem_of_getElem? (i := 466) (by decide +kernel)) rfl
theorem m_467 : Cond.methodLink "IharaZeta$WalkCounter" 38 ⟨"IharaZeta$WalkCounter","countPrimitive","(LIharaZeta$Graph;)V"⟩ ∈ tbG := tbG_in (List.mem_of_getElem? (i := 467) (by decide +kernel)) rfl
theorem m_468 : Cond.methodLink "IharaZeta$WalkCounter" 41 ⟨"IharaZeta$WalkCounter","countClosedSigned","(LIharaZeta$Graph;)V"⟩ ∈ tbG := tbG_in (List.mem_of_getElem? (i := 468) (by decide +kernel)) rfl
theorem m_469 : Cond.constantLong "IharaZeta" 176 (2 : Int64) ∈ tbG := tbG_in (List.mem_of_getElem? (i := 469) (by decide +kernel)) rfl
theorem m_470 : Cond.methodLink "IharaZetaLaw" 87 ⟨"IharaZeta","primeEdge","(III)I"⟩ ∈ tbG := tbG_in (List.mem_of_getElem? (i := 470) (by decide +kernel)) rfl
theorem m_471 : Cond.instanceMethod ⟨"IharaZeta","primeEdge","(III)I"⟩ ∈ tbG := tbG_in (List.mem_of_getElem? (i := 471) (by decide +kernel)) rfl
theorem m_472 : Cond.selects "IharaZeta" ⟨"IharaZeta","primeEdge","(III)I"⟩ ⟨"IharaZeta","primeEdge","(III)I"⟩ ∈ tbG := tbG_in (List.mem_of_getElem? (i := 472) (by decide +kernel)) rfl
theorem m_473 : Cond.code ⟨"IharaZeta","primeEdge","(III)I"⟩ prog_1_method_25_code 4 (some FieldType.int) ∈ tbG := tbG_in (List.mem_of_getElem? (i := 473) (by decide +kernel)) rfl
theorem m_474 : Cond.methodLink "IharaZeta" 182 ⟨"IharaZeta","isPrimeLength","(I)Z"⟩ ∈ tbG := tbG_in (List.mem_of_getElem? (i := 474) (by decide +kernel)) rfl
theorem m_475 : Cond.static ⟨"IharaZeta","isPrimeLength","(I)Z"⟩ ∈ tbG := tbG_in (List.mem_of_getElem? (i := 475) (by decide +kernel)) rfl
theorem m_476 : Cond.code ⟨"IharaZeta","isPrimeLength","(I)Z"⟩ prog_1_method_38_code 1 (some FieldType.boolean) ∈ tbG := tbG_in (List.mem_of_getElem? (i := 476) (by decide +kernel)) rfl
theorem m_477 : Cond.methodLink "IharaZeta" 185 ⟨"IharaZeta$PrimeSearch","find","(LIharaZeta$Graph;II)Z"⟩ ∈ tbG := tbG_in (List.mem_of_getElem? (i := 477) (by decide +kernel)) rfl
theorem m_478 : Cond.instanceMethod ⟨"IharaZeta$PrimeSearch","find","(LIharaZeta$Graph;II)Z"⟩ ∈ tbG := tbG_in (List.mem_of_getElem? (i := 478) (by decide +kernel)) rfl
theorem m_479 : Cond.selects "IharaZeta$PrimeSearch" ⟨"IharaZeta$PrimeSearch","find","(LIharaZeta$Graph;II)Z"⟩ ⟨"IharaZeta$PrimeSearch","find","(LIharaZeta$Graph;II)Z"⟩ ∈ tbG := tbG_in (List.mem_of_getElem? (i := 479) (by decide +kernel)) rfl
theorem m_480 : Cond.code ⟨"IharaZeta$PrimeSearch","find","(LIharaZeta$Graph;II)Z"⟩ prog_7_method_2_code 4 (some FieldType.boolean) ∈ tbG := tbG_in (List.mem_of_getElem? (i := 480) (by decide +kernel)) rfl
theorem m_481 : Cond.methodLink "IharaZeta$PrimeSearch" 19 ⟨"IharaZeta$PrimeSearch","extend","(LIharaZeta$Graph;III)Z"⟩ ∈ tbG := tbG_in (List.mem_of_getElem? (i := 481) (by decide +kernel)) rfl
theorem m_483 : Cond.instanceMethod ⟨"IharaZeta$PrimeSearch","extend","(LIharaZeta$Graph;III)Z"⟩ ∈ tbG := tbG_in (List.mem_of_getElem? (i := 483) (by decide +kernel)) rfl
theorem m_484 : Cond.code ⟨"IharaZeta$PrimeSearch","extend","(LIharaZeta$Graph;III)Z"⟩ prog_7_method_4_code 8 (some FieldType.boolean) ∈ tbG := tbG_in (List.mem_of_getElem? (i := 484) (by decide +kernel)) rfl
theorem m_485 : Cond.methodLink "IharaZeta$PrimeSearch" 28 ⟨"IharaZeta$PrimeSearch","isWanted","(LIharaZeta$Graph;II)Z"⟩ ∈ tbG := tbG_in (List.mem_of_getElem? (i := 485) (by decide +kernel)) rfl
theorem m_487 : Cond.instanceMethod ⟨"IharaZeta$PrimeSearch","isWanted","(LIharaZeta$Graph;II)Z"⟩ ∈ tbG := tbG_in (List.mem_of_getElem? (i := 487) (by decide +kernel)) rfl
theorem m_488 : Cond.code ⟨"IharaZeta$PrimeSearch","isWanted","(LIharaZeta$Graph;II)Z"⟩ prog_7_method_5_code 4 (some FieldType.boolean) ∈ tbG := tbG_in (List.mem_of_getElem? (i := 488) (by decide +kernel)) rfl
theorem m_489 : Cond.methodLink "IharaZeta$PrimeSearch" 35 ⟨"IharaZeta$Graph","leadsOn","(II)Z"⟩ ∈ tbG := tbG_in (List.mem_of_getElem? (i := 489) (by decide +kernel)) rfl
theorem m_490 : Cond.methodLink "IharaZetaLaw" 90 ⟨"IharaZeta","primeSign","(II)I"⟩ ∈ tbG := tbG_in (List.mem_of_getElem? (i := 490) (by decide +kernel)) rfl
theorem m_491 : Cond.instanceMethod ⟨"IharaZeta","primeSign","(II)I"⟩ ∈ tbG := tbG_in (List.mem_of_getElem? (i := 491) (by decide +kernel)) rfl
theorem m_492 : Cond.selects "IharaZeta" ⟨"IharaZeta","primeSign","(II)I"⟩ ⟨"IharaZeta","primeSign","(II)I"⟩ ∈ tbG := tbG_in (List.mem_of_getElem? (i := 492) (by decide +kernel)) rfl
theorem m_493 : Cond.code ⟨"IharaZeta","primeSign","(II)I"⟩ prog_1_method_26_code 3 (some FieldType.int) ∈ tbG := tbG_in (List.mem_of_getElem? (i := 493) (by decide +kernel)) rfl
theorem m_494 : Cond.methodLink "IharaZeta" 192 ⟨"IharaZeta$PrimeSearch","signOfWord","(LIharaZeta$Graph;I)I"⟩ ∈ tbG := tbG_in (List.mem_of_getElem? (i := 494) (by decide +kernel)) rfl
theorem m_495 : Cond.instanceMethod ⟨"IharaZeta$PrimeSearch","signOfWord","(LIharaZeta$Graph;I)I"⟩ ∈ tbG := tbG_in (List.mem_of_getElem? (i := 495) (by decide +kernel)) rfl
theorem m_496 : Cond.selects "IharaZeta$PrimeSearch" ⟨"IharaZeta$PrimeSearch","signOfWord","(LIharaZeta$Graph;I)I"⟩ ⟨"IharaZeta$PrimeSearch","signOfWord","(LIharaZeta$Graph;I)I"⟩ ∈ tbG := tbG_in (List.mem_of_getElem? (i := 496) (by decide +kernel)) rfl
theorem m_497 : Cond.code ⟨"IharaZeta$PrimeSearch","signOfWord","(LIharaZeta$Graph;I)I"⟩ prog_7_method_3_code 5 (some FieldType.int) ∈ tbG := tbG_in (List.mem_of_getElem? (i := 497) (by decide +kernel)) rfl
theorem m_498 : Cond.methodLink "IharaZetaLaw" 93 ⟨"IharaZeta","edgeCoefficient","(I)J"⟩ ∈ tbG := tbG_in (List.mem_of_getElem? (i := 498) (by decide +kernel)) rfl
theorem m_499 : Cond.instanceMethod ⟨"IharaZeta","edgeCoefficient","(I)J"⟩ ∈ tbG := tbG_in (List.mem_of_getElem? (i := 499) (by decide +kernel)) rfl
theorem m_500 : Cond.selects "IharaZeta" ⟨"IharaZeta","edgeCoefficient","(I)J"⟩ ⟨"IharaZeta","edgeCoefficient","(I)J"⟩ ∈ tbG := tbG_in (List.mem_of_getElem? (i := 500) (by decide +kernel)) rfl
theorem m_501 : Cond.code ⟨"IharaZeta","edgeCoefficient","(I)J"⟩ prog_1_method_27_code 2 (some FieldType.long) ∈ tbG := tbG_in (List.mem_of_getElem? (i := 501) (by decide +kernel)) rfl
theorem m_502 : Cond.methodLink "IharaZeta" 196 ⟨"IharaZeta","isIndex","(II)Z"⟩ ∈ tbG := tbG_in (List.mem_of_getElem? (i := 502) (by decide +kernel)) rfl
theorem m_503 : Cond.static ⟨"IharaZeta","isIndex","(II)Z"⟩ ∈ tbG := tbG_in (List.mem_of_getElem? (i := 503) (by decide +kernel)) rfl
theorem m_504 : Cond.code ⟨"IharaZeta","isIndex","(II)Z"⟩ prog_1_method_39_code 2 (some FieldType.boolean) ∈ tbG := tbG_in (List.mem_of_getElem? (i := 504) (by decide +kernel)) rfl
theorem m_505 : Cond.methodLink "IharaZeta" 199 ⟨"IharaZeta","makeEdgePolynomial","()V"⟩ ∈ tbG := tbG_in (List.mem_of_getElem? (i := 505) (by decide +kernel)) rfl
theorem m_507 : Cond.instanceMethod ⟨"IharaZeta","makeEdgePolynomial","()V"⟩ ∈ tbG := tbG_in (List.mem_of_getElem? (i := 507) (by decide +kernel)) rfl
theorem m_508 : Cond.code ⟨"IharaZeta","makeEdgePolynomial","()V"⟩ prog_1_method_36_code 1 (none : Option FieldType) ∈ tbG := tbG_in (List.mem_of_getElem? (i := 508) (by decide +kernel)) rfl
theorem m_509 : Cond.methodLink "IharaZeta" 205 ⟨"IharaZeta$EdgePolynomial","makeFrom","([J)V"⟩ ∈ tbG := tbG_in (List.mem_of_getElem? (i := 509) (by decide +kernel)) rfl
theorem m_510 : Cond.instanceMethod ⟨"IharaZeta$EdgePolynomial","makeFrom","([J)V"⟩ ∈ tbG := tbG_in (List.mem_of_getElem? (i := 510) (by decide +kernel)) rfl
theorem m_511 : Cond.selects "IharaZeta$EdgePolynomial" ⟨"IharaZeta$EdgePolynomial","makeFrom","([J)V"⟩ ⟨"IharaZeta$EdgePolynomial","makeFrom","([J)V"⟩ ∈ tbG := tbG_in (List.mem_of_getElem? (i := 511) (by decide +kernel)) rfl
theorem m_512 : Cond.code ⟨"IharaZeta$EdgePolynomial","makeFrom","([J)V"⟩ prog_2_method_2_code 6 (none : Option FieldType) ∈ tbG := tbG_in (List.mem_of_getElem? (i := 512) (by decide +kernel)) rfl
theorem m_513 : Cond.methodLink "IharaZetaLaw" 96 ⟨"IharaZeta","signedCoefficient","(I)J"⟩ ∈ tbG := tbG_in (List.mem_of_getElem? (i := 513) (by decide +kernel)) rfl
theorem m_514 : Cond.instanceMethod ⟨"IharaZeta","signedCoefficient","(I)J"⟩ ∈ tbG := tbG_in (List.mem_of_getElem? (i := 514) (by decide +kernel)) rfl
theorem m_515 : Cond.selects "IharaZeta" ⟨"IharaZeta","signedCoefficient","(I)J"⟩ ⟨"IharaZeta","signedCoefficient","(I)J"⟩ ∈ tbG := tbG_in (List.mem_of_getElem? (i := 515) (by decide +kernel)) rfl
theorem m_516 : Cond.code ⟨"IharaZeta","signedCoefficient","(I)J"⟩ prog_1_method_28_code 2 (some FieldType.long) ∈ tbG := tbG_in (List.mem_of_getElem? (i := 516) (by decide +kernel)) rfl
theorem m_517 : Cond.methodLink "IharaZetaLaw" 99 ⟨"IharaZeta","vertexCoefficient","(I)J"⟩ ∈ tbG := tbG_in (List.mem_of_getElem? (i := 517) (by decide +kernel)) rfl
theorem m_518 : Cond.instanceMethod ⟨"IharaZeta","vertexCoefficient","(I)J"⟩ ∈ tbG := tbG_in (List.mem_of_getElem? (i := 518) (by decide +kernel)) rfl
theorem m_519 : Cond.selects "IharaZeta" ⟨"IharaZeta","vertexCoefficient","(I)J"⟩ ⟨"IharaZeta","vertexCoefficient","(I)J"⟩ ∈ tbG := tbG_in (List.mem_of_getElem? (i := 519) (by decide +kernel)) rfl
theorem m_520 : Cond.code ⟨"IharaZeta","vertexCoefficient","(I)J"⟩ prog_1_method_29_code 2 (some FieldType.long) ∈ tbG := tbG_in (List.mem_of_getElem? (i := 520) (by decide +kernel)) rfl
theorem m_521 : Cond.methodLink "IharaZeta" 209 ⟨"IharaZeta$VertexPolynomial","makeFrom","(LIharaZeta$Graph;)V"⟩ ∈ tbG := tbG_in (List.mem_of_getElem? (i := 521) (by decide +kernel)) rfl
theorem m_522 : Cond.instanceMethod ⟨"IharaZeta$VertexPolynomial","makeFrom","(LIharaZeta$Graph;)V"⟩ ∈ tbG := tbG_in (List.mem_of_getElem? (i := 522) (by decide +kernel)) rfl
theorem m_523 : Cond.selects "IharaZeta$VertexPolynomial" ⟨"IharaZeta$VertexPolynomial","makeFrom","(LIharaZeta$Graph;)V"⟩ ⟨"IharaZeta$VertexPolynomial","makeFrom","(LIharaZeta$Graph;)V"⟩ ∈ tbG := tbG_in (List.mem_of_getElem? (i := 523) (by decide +kernel)) rfl
theorem m_524 : Cond.code ⟨"IharaZeta$VertexPolynomial","makeFrom","(LIharaZeta$Graph;)V"⟩ prog_8_method_2_code 4 (none : Option FieldType) ∈ tbG := tbG_in (List.mem_of_getElem? (i := 524) (by decide +kernel)) rfl
theorem m_525 : Cond.methodLink "IharaZeta$VertexPolynomial" 20 ⟨"java/util/Arrays","fill","([JJ)V"⟩ ∈ tbG := tbG_in (List.mem_of_getElem? (i := 525) (by decide +kernel)) rfl
theorem m_526 : Cond.methodLink "IharaZeta$VertexPolynomial" 32 ⟨"IharaZeta$VertexPolynomial","makeMinor","(LIharaZeta$Graph;I)V"⟩ ∈ tbG := tbG_in (List.mem_of_getElem? (i := 526) (by decide +kernel)) rfl
theorem m_528 : Cond.instanceMethod ⟨"IharaZeta$VertexPolynomial","makeMinor","(LIharaZeta$Graph;I)V"⟩ ∈ tbG := tbG_in (List.mem_of_getElem? (i := 528) (by decide +kernel)) rfl
theorem m_529 : Cond.code ⟨"IharaZeta$VertexPolynomial","makeMinor","(LIharaZeta$Graph;I)V"⟩ prog_8_method_4_code 8 (none : Option FieldType) ∈ tbG := tbG_in (List.mem_of_getElem? (i := 529) (by decide +kernel)) rfl
theorem m_530 : Cond.methodLink "IharaZeta$VertexPolynomial" 42 ⟨"java/lang/Integer","bitCount","(I)I"⟩ ∈ tbG := tbG_in (List.mem_of_getElem? (i := 530) (by decide +kernel)) rfl
theorem m_531 : Cond.static ⟨"java/lang/Integer","bitCount","(I)I"⟩ ∈ tbG := tbG_in (List.mem_of_getElem? (i := 531) (by decide +kernel)) rfl
theorem m_532 : Cond.code ⟨"java/lang/Integer","bitCount","(I)I"⟩ prog_12_method_49_code 1 (some FieldType.int) ∈ tbG := tbG_in (List.mem_of_getElem? (i := 532) (by decide +kernel)) rfl
theorem m_533 : Cond.constant "java/lang/Integer" 265 (1431655765 : Int32) ∈ tbG := tbG_in (List.mem_of_getElem? (i := 533) (by decide +kernel)) rfl
theorem m_534 : Cond.constant "java/lang/Integer" 266 (858993459 : Int32) ∈ tbG := tbG_in (List.mem_of_getElem? (i := 534) (by decide +kernel)) rfl
theorem m_535 : Cond.constant "java/lang/Integer" 267 (252645135 : Int32) ∈ tbG := tbG_in (List.mem_of_getElem? (i := 535) (by decide +kernel)) rfl
theorem m_536 : Cond.methodLink "IharaZeta$VertexPolynomial" 48 ⟨"IharaZeta$VertexPolynomial","addProduct","(LIharaZeta$Graph;IIJ[J[J)V"⟩ ∈ tbG := tbG_in (List.mem_of_getElem? (i := 536) (by decide +kernel)) rfl
theorem m_537 : Cond.static ⟨"IharaZeta$VertexPolynomial","addProduct","(LIharaZeta$Graph;IIJ[J[J)V"⟩ ∈ tbG := tbG_in (List.mem_of_getElem? (i := 537) (by decide +kernel)) rfl
theorem m_538 : Cond.code ⟨"IharaZeta$VertexPolynomial","addProduct","(LIharaZeta$Graph;IIJ[J[J)V"⟩ prog_8_method_5_code 7 (none : Option FieldType) ∈ tbG := tbG_in (List.mem_of_getElem? (i := 538) (by decide +kernel)) rfl
theorem m_539 : Cond.methodLink "IharaZeta$VertexPolynomial" 52 ⟨"IharaZeta$Graph","edgesBetween","(II)I"⟩ ∈ tbG := tbG_in (List.mem_of_getElem? (i := 539) (by decide +kernel)) rfl
theorem m_540 : Cond.instanceMethod ⟨"IharaZeta$Graph","edgesBetween","(II)I"⟩ ∈ tbG := tbG_in (List.mem_of_getElem? (i := 540) (by decide +kernel)) rfl
theorem m_541 : Cond.selects "IharaZeta$Graph" ⟨"IharaZeta$Graph","edgesBetween","(II)I"⟩ ⟨"IharaZeta$Graph","edgesBetween","(II)I"⟩ ∈ tbG := tbG_in (List.mem_of_getElem? (i := 541) (by decide +kernel)) rfl
theorem m_542 : Cond.code ⟨"IharaZeta$Graph","edgesBetween","(II)I"⟩ prog_4_method_14_code 7 (some FieldType.int) ∈ tbG := tbG_in (List.mem_of_getElem? (i := 542) (by decide +kernel)) rfl
theorem m_543 : Cond.methodLink "IharaZeta$VertexPolynomial" 56 ⟨"IharaZeta$VertexPolynomial","addShifted","([JIJ[J)V"⟩ ∈ tbG := tbG_in (List.mem_of_getElem? (i := 543) (by decide +kernel)) rfl
theorem m_544 : Cond.static ⟨"IharaZeta$VertexPolynomial","addShifted","([JIJ[J)V"⟩ ∈ tbG := tbG_in (List.mem_of_getElem? (i := 544) (by decide +kernel)) rfl
theorem m_545 : Cond.code ⟨"IharaZeta$VertexPolynomial","addShifted","([JIJ[J)V"⟩ prog_8_method_6_code 6 (none : Option FieldType) ∈ tbG := tbG_in (List.mem_of_getElem? (i := 545) (by decide +kernel)) rfl
theorem m_546 : Cond.methodLink "IharaZeta$VertexPolynomial" 60 ⟨"IharaZeta$Graph","edgesAt","(I)I"⟩ ∈ tbG := tbG_in (List.mem_of_getElem? (i := 546) (by decide +kernel)) rfl
theorem m_547 : Cond.methodLink "IharaZeta$VertexPolynomial" 36 ⟨"java/lang/System","arraycopy","(Ljava/lang/Object;ILjava/lang/Object;II)V"⟩ ∈ tbG := tbG_in (List.mem_of_getElem? (i := 547) (by decide +kernel)) rfl
theorem m_548 : Cond.static ⟨"java/lang/System","arraycopy","(Ljava/lang/Object;ILjava/lang/Object;II)V"⟩ ∈ tbG := tbG_in (List.mem_of_getElem? (i := 548) (by decide +kernel)) rfl
theorem m_549 : Cond.native ⟨"java/lang/System","arraycopy","(Ljava/lang/Object;ILjava/lang/Object;II)V"⟩ ∈ tbG := tbG_in (List.mem_of_getElem? (i := 549) (by decide +kernel)) rfl
theorem m_550 : Cond.methodLink "IharaZetaLaw" 102 ⟨"IharaZeta","bassCoefficient","(I)J"⟩ ∈ tbG := tbG_in (List.mem_of_getElem? (i := 550) (by decide +kernel)) rfl
theorem m_551 : Cond.instanceMethod ⟨"IharaZeta","bassCoefficient","(I)J"⟩ ∈ tbG := tbG_in (List.mem_of_getElem? (i := 551) (by decide +kernel)) rfl
theorem m_552 : Cond.selects "IharaZeta" ⟨"IharaZeta","bassCoefficient","(I)J"⟩ ⟨"IharaZeta","bassCoefficient","(I)J"⟩ ∈ tbG := tbG_in (List.mem_of_getElem? (i := 552) (by decide +kernel)) rfl
theorem m_553 : Cond.code ⟨"IharaZeta","bassCoefficient","(I)J"⟩ prog_1_method_30_code 2 (some FieldType.long) ∈ tbG := tbG_in (List.mem_of_getElem? (i := 553) (by decide +kernel)) rfl
theorem m_554 : Cond.methodLink "IharaZeta" 212 ⟨"IharaZeta$VertexPolynomial","turnIntoBass","(I)V"⟩ ∈ tbG := tbG_in (List.mem_of_getElem? (i := 554) (by decide +kernel)) rfl
theorem m_555 : Cond.instanceMethod ⟨"IharaZeta$VertexPolynomial","turnIntoBass","(I)V"⟩ ∈ tbG := tbG_in (List.mem_of_getElem? (i := 555) (by decide +kernel)) rfl
theorem m_556 : Cond.selects "IharaZeta$VertexPolynomial" ⟨"IharaZeta$VertexPolynomial","turnIntoBass","(I)V"⟩ ⟨"IharaZeta$VertexPolynomial","turnIntoBass","(I)V"⟩ ∈ tbG := tbG_in (List.mem_of_getElem? (i := 556) (by decide +kernel)) rfl
theorem m_557 : Cond.code ⟨"IharaZeta$VertexPolynomial","turnIntoBass","(I)V"⟩ prog_8_method_3_code 4 (none : Option FieldType) ∈ tbG := tbG_in (List.mem_of_getElem? (i := 557) (by decide +kernel)) rfl
theorem m_558 : Cond.methodLink "IharaZetaLaw" 105 ⟨"IharaZeta","zetaCoefficient","(I)J"⟩ ∈ tbG := tbG_in (List.mem_of_getElem? (i := 558) (by decide +kernel)) rfl
theorem m_559 : Cond.instanceMethod ⟨"IharaZeta","zetaCoefficient","(I)J"⟩ ∈ tbG := tbG_in (List.mem_of_getElem? (i := 559) (by decide +kernel)) rfl
theorem m_560 : Cond.selects "IharaZeta" ⟨"IharaZeta","zetaCoefficient","(I)J"⟩ ⟨"IharaZeta","zetaCoefficient","(I)J"⟩ ∈ tbG := tbG_in (List.mem_of_getElem? (i := 560) (by decide +kernel)) rfl
theorem m_561 : Cond.code ⟨"IharaZeta","zetaCoefficient","(I)J"⟩ prog_1_method_31_code 2 (some FieldType.long) ∈ tbG := tbG_in (List.mem_of_getElem? (i := 561) (by decide +kernel)) rfl
theorem m_562 : Cond.methodLink "IharaZeta" 215 ⟨"IharaZeta$EdgePolynomial","inverseCoefficient","(I)J"⟩ ∈ tbG := tbG_in (List.mem_of_getElem? (i := 562) (by decide +kernel)) rfl
theorem m_563 : Cond.instanceMethod ⟨"IharaZeta$EdgePolynomial","inverseCoefficient","(I)J"⟩ ∈ tbG := tbG_in (List.mem_of_getElem? (i := 563) (by decide +kernel)) rfl
theorem m_564 : Cond.selects "IharaZeta$EdgePolynomial" ⟨"IharaZeta$EdgePolynomial","inverseCoefficient","(I)J"⟩ ⟨"IharaZeta$EdgePolynomial","inverseCoefficient","(I)J"⟩ ∈ tbG := tbG_in (List.mem_of_getElem? (i := 564) (by decide +kernel)) rfl
theorem m_565 : Cond.code ⟨"IharaZeta$EdgePolynomial","inverseCoefficient","(I)J"⟩ prog_2_method_3_code 6 (some FieldType.long) ∈ tbG := tbG_in (List.mem_of_getElem? (i := 565) (by decide +kernel)) rfl
theorem m_566 : Cond.methodLink "IharaZetaLaw" 108 ⟨"IharaZeta","edgeValue","(I)J"⟩ ∈ tbG := tbG_in (List.mem_of_getElem? (i := 566) (by decide +kernel)) rfl
theorem m_567 : Cond.instanceMethod ⟨"IharaZeta","edgeValue","(I)J"⟩ ∈ tbG := tbG_in (List.mem_of_getElem? (i := 567) (by decide +kernel)) rfl
theorem m_568 : Cond.selects "IharaZeta" ⟨"IharaZeta","edgeValue","(I)J"⟩ ⟨"IharaZeta","edgeValue","(I)J"⟩ ∈ tbG := tbG_in (List.mem_of_getElem? (i := 568) (by decide +kernel)) rfl
theorem m_569 : Cond.code ⟨"IharaZeta","edgeValue","(I)J"⟩ prog_1_method_32_code 2 (some FieldType.long) ∈ tbG := tbG_in (List.mem_of_getElem? (i := 569) (by decide +kernel)) rfl
theorem m_570 : Cond.methodLink "IharaZeta" 219 ⟨"IharaZeta$EdgePolynomial","valueAt","(J)J"⟩ ∈ tbG := tbG_in (List.mem_of_getElem? (i := 570) (by decide +kernel)) rfl
theorem m_571 : Cond.instanceMethod ⟨"IharaZeta$EdgePolynomial","valueAt","(J)J"⟩ ∈ tbG := tbG_in (List.mem_of_getElem? (i := 571) (by decide +kernel)) rfl
theorem m_572 : Cond.selects "IharaZeta$EdgePolynomial" ⟨"IharaZeta$EdgePolynomial","valueAt","(J)J"⟩ ⟨"IharaZeta$EdgePolynomial","valueAt","(J)J"⟩ ∈ tbG := tbG_in (List.mem_of_getElem? (i := 572) (by decide +kernel)) rfl
theorem m_573 : Cond.code ⟨"IharaZeta$EdgePolynomial","valueAt","(J)J"⟩ prog_2_method_4_code 6 (some FieldType.long) ∈ tbG := tbG_in (List.mem_of_getElem? (i := 573) (by decide +kernel)) rfl
theorem m_574 : Cond.methodLink "IharaZetaLaw" 111 ⟨"IharaZeta","taylorAtOne","(I)J"⟩ ∈ tbG := tbG_in (List.mem_of_getElem? (i := 574) (by decide +kernel)) rfl
theorem m_575 : Cond.instanceMethod ⟨"IharaZeta","taylorAtOne","(I)J"⟩ ∈ tbG := tbG_in (List.mem_of_getElem? (i := 575) (by decide +kernel)) rfl
theorem m_576 : Cond.selects "IharaZeta" ⟨"IharaZeta","taylorAtOne","(I)J"⟩ ⟨"IharaZeta","taylorAtOne","(I)J"⟩ ∈ tbG := tbG_in (List.mem_of_getElem? (i := 576) (by decide +kernel)) rfl
theorem m_577 : Cond.code ⟨"IharaZeta","taylorAtOne","(I)J"⟩ prog_1_method_33_code 2 (some FieldType.long) ∈ tbG := tbG_in (List.mem_of_getElem? (i := 577) (by decide +kernel)) rfl
theorem m_578 : Cond.methodLink "IharaZeta" 223 ⟨"IharaZeta$EdgePolynomial","coefficientAroundOne","(I)J"⟩ ∈ tbG := tbG_in (List.mem_of_getElem? (i := 578) (by decide +kernel)) rfl
theorem m_579 : Cond.instanceMethod ⟨"IharaZeta$EdgePolynomial","coefficientAroundOne","(I)J"⟩ ∈ tbG := tbG_in (List.mem_of_getElem? (i := 579) (by decide +kernel)) rfl
theorem m_580 : Cond.selects "IharaZeta$EdgePolynomial" ⟨"IharaZeta$EdgePolynomial","coefficientAroundOne","(I)J"⟩ ⟨"IharaZeta$EdgePolynomial","coefficientAroundOne","(I)J"⟩ ∈ tbG := tbG_in (List.mem_of_getElem? (i := 580) (by decide +kernel)) rfl
theorem m_581 : Cond.code ⟨"IharaZeta$EdgePolynomial","coefficientAroundOne","(I)J"⟩ prog_2_method_5_code 4 (some FieldType.long) ∈ tbG := tbG_in (List.mem_of_getElem? (i := 581) (by decide +kernel)) rfl
theorem m_582 : Cond.methodLink "IharaZeta$EdgePolynomial" 18 ⟨"java/lang/System","arraycopy","(Ljava/lang/Object;ILjava/lang/Object;II)V"⟩ ∈ tbG := tbG_in (List.mem_of_getElem? (i := 582) (by decide +kernel)) rfl
theorem m_583 : Cond.methodLink "IharaZetaLaw" 209 ⟨"IharaZetaLaw","texts","(LIharaZeta;)Z"⟩ ∈ tbG := tbG_in (List.mem_of_getElem? (i := 583) (by decide +kernel)) rfl
theorem m_584 : Cond.static ⟨"IharaZetaLaw","texts","(LIharaZeta;)Z"⟩ ∈ tbG := tbG_in (List.mem_of_getElem? (i := 584) (by decide +kernel)) rfl
theorem m_585 : Cond.code ⟨"IharaZetaLaw","texts","(LIharaZeta;)Z"⟩ method_11_code 3 (some FieldType.boolean) ∈ tbG := tbG_in (List.mem_of_getElem? (i := 585) (by decide +kernel)) rfl
theorem m_586 : Cond.constantLong "IharaZetaLaw" 116 (3471485017785466418 : Int64) ∈ tbG := tbG_in (List.mem_of_getElem? (i := 586) (by decide +kernel)) rfl
theorem m_587 : Cond.methodLink "IharaZetaLaw" 118 ⟨"IharaZetaLaw","types","(LIharaZeta;J)I"⟩ ∈ tbG := tbG_in (List.mem_of_getElem? (i := 587) (by decide +kernel)) rfl
theorem m_588 : Cond.static ⟨"IharaZetaLaw","types","(LIharaZeta;J)I"⟩ ∈ tbG := tbG_in (List.mem_of_getElem? (i := 588) (by decide +kernel)) rfl
theorem m_589 : Cond.code ⟨"IharaZetaLaw","types","(LIharaZeta;J)I"⟩ method_10_code 6 (some FieldType.int) ∈ tbG := tbG_in (List.mem_of_getElem? (i := 589) (by decide +kernel)) rfl
theorem m_590 : Cond.constantLong "IharaZetaLaw" 114 (255 : Int64) ∈ tbG := tbG_in (List.mem_of_getElem? (i := 590) (by decide +kernel)) rfl
theorem m_591 : Cond.constantLong "IharaZetaLaw" 122 (2322485432718211872 : Int64) ∈ tbG := tbG_in (List.mem_of_getElem? (i := 591) (by decide +kernel)) rfl
theorem m_592 : Cond.constantLong "IharaZetaLaw" 127 (-6 : Int64) ∈ tbG := tbG_in (List.mem_of_getElem? (i := 592) (by decide +kernel)) rfl
theorem m_593 : Cond.methodLink "IharaZetaLaw" 129 ⟨"IharaZeta","clearText","()I"⟩ ∈ tbG := tbG_in (List.mem_of_getElem? (i := 593) (by decide +kernel)) rfl
theorem m_594 : Cond.instanceMethod ⟨"IharaZeta","clearText","()I"⟩ ∈ tbG := tbG_in (List.mem_of_getElem? (i := 594) (by decide +kernel)) rfl
theorem m_595 : Cond.selects "IharaZeta" ⟨"IharaZeta","clearText","()I"⟩ ⟨"IharaZeta","clearText","()I"⟩ ∈ tbG := tbG_in (List.mem_of_getElem? (i := 595) (by decide +kernel)) rfl
theorem m_596 : Cond.code ⟨"IharaZeta","clearText","()I"⟩ prog_1_method_7_code 2 (some FieldType.int) ∈ tbG := tbG_in (List.mem_of_getElem? (i := 596) (by decide +kernel)) rfl
theorem m_597 : Cond.constantLong "IharaZetaLaw" 132 (808268859 : Int64) ∈ tbG := tbG_in (List.mem_of_getElem? (i := 597) (by decide +kernel)) rfl
theorem m_598 : Cond.constantLong "IharaZetaLaw" 134 (808267835 : Int64) ∈ tbG := tbG_in (List.mem_of_getElem? (i := 598) (by decide +kernel)) rfl
theorem m_599 : Cond.constantLong "IharaZetaLaw" 136 (12330 : Int64) ∈ tbG := tbG_in (List.mem_of_getElem? (i := 599) (by decide +kernel)) rfl
theorem m_600 : Cond.constantLong "IharaZetaLaw" 138 (808268064 : Int64) ∈ tbG := tbG_in (List.mem_of_getElem? (i := 600) (by decide +kernel)) rfl
theorem m_601 : Cond.constantLong "IharaZetaLaw" 140 (808268077 : Int64) ∈ tbG := tbG_in (List.mem_of_getElem? (i := 601) (by decide +kernel)) rfl
theorem m_602 : Cond.constantLong "IharaZetaLaw" 142 (808268091 : Int64) ∈ tbG := tbG_in (List.mem_of_getElem? (i := 602) (by decide +kernel)) rfl
theorem m_603 : Cond.constantLong "IharaZetaLaw" 144 (32 : Int64) ∈ tbG := tbG_in (List.mem_of_getElem? (i := 603) (by decide +kernel)) rfl
theorem m_604 : Cond.constantLong "IharaZetaLaw" 146 (48 : Int64) ∈ tbG := tbG_in (List.mem_of_getElem? (i := 604) (by decide +kernel)) rfl
theorem m_605 : Cond.constantLong "IharaZetaLaw" 148 (144 : Int64) ∈ tbG := tbG_in (List.mem_of_getElem? (i := 605) (by decide +kernel)) rfl
theorem m_606 : Cond.constantLong "IharaZetaLaw" 150 (36028797018963984 : Int64) ∈ tbG := tbG_in (List.mem_of_getElem? (i := 606) (by decide +kernel)) rfl
theorem m_607 : Cond.methodLink "IharaZetaLaw" 152 ⟨"IharaZeta","edgeDegree","()I"⟩ ∈ tbG := tbG_in (List.mem_of_getElem? (i := 607) (by decide +kernel)) rfl
theorem m_608 : Cond.instanceMethod ⟨"IharaZeta","edgeDegree","()I"⟩ ∈ tbG := tbG_in (List.mem_of_getElem? (i := 608) (by decide +kernel)) rfl
theorem m_609 : Cond.selects "IharaZeta" ⟨"IharaZeta","edgeDegree","()I"⟩ ⟨"IharaZeta","edgeDegree","()I"⟩ ∈ tbG := tbG_in (List.mem_of_getElem? (i := 609) (by decide +kernel)) rfl
theorem m_610 : Cond.code ⟨"IharaZeta","edgeDegree","()I"⟩ prog_1_method_34_code 1 (some FieldType.int) ∈ tbG := tbG_in (List.mem_of_getElem? (i := 610) (by decide +kernel)) rfl
theorem m_611 : Cond.methodLink "IharaZeta" 226 ⟨"IharaZeta$EdgePolynomial","highestPower","()I"⟩ ∈ tbG := tbG_in (List.mem_of_getElem? (i := 611) (by decide +kernel)) rfl
theorem m_612 : Cond.instanceMethod ⟨"IharaZeta$EdgePolynomial","highestPower","()I"⟩ ∈ tbG := tbG_in (List.mem_of_getElem? (i := 612) (by decide +kernel)) rfl
theorem m_613 : Cond.selects "IharaZeta$EdgePolynomial" ⟨"IharaZeta$EdgePolynomial","highestPower","()I"⟩ ⟨"IharaZeta$EdgePolynomial","highestPower","()I"⟩ ∈ tbG := tbG_in (List.mem_of_getElem? (i := 613) (by decide +kernel)) rfl
theorem m_614 : Cond.code ⟨"IharaZeta$EdgePolynomial","highestPower","()I"⟩ prog_2_method_6_code 2 (some FieldType.int) ∈ tbG := tbG_in (List.mem_of_getElem? (i := 614) (by decide +kernel)) rfl
theorem m_615 : Cond.methodLink "IharaZetaLaw" 155 ⟨"IharaZeta","spanningTrees","()I"⟩ ∈ tbG := tbG_in (List.mem_of_getElem? (i := 615) (by decide +kernel)) rfl
theorem m_616 : Cond.instanceMethod ⟨"IharaZeta","spanningTrees","()I"⟩ ∈ tbG := tbG_in (List.mem_of_getElem? (i := 616) (by decide +kernel)) rfl
theorem m_617 : Cond.selects "IharaZeta" ⟨"IharaZeta","spanningTrees","()I"⟩ ⟨"IharaZeta","spanningTrees","()I"⟩ ∈ tbG := tbG_in (List.mem_of_getElem? (i := 617) (by decide +kernel)) rfl
theorem m_618 : Cond.code ⟨"IharaZeta","spanningTrees","()I"⟩ prog_1_method_35_code 1 (some FieldType.int) ∈ tbG := tbG_in (List.mem_of_getElem? (i := 618) (by decide +kernel)) rfl
theorem m_619 : Cond.methodLink "IharaZeta" 230 ⟨"IharaZeta$Grouping","countTrees","(LIharaZeta$Graph;)I"⟩ ∈ tbG := tbG_in (List.mem_of_getElem? (i := 619) (by decide +kernel)) rfl
theorem m_620 : Cond.instanceMethod ⟨"IharaZeta$Grouping","countTrees","(LIharaZeta$Graph;)I"⟩ ∈ tbG := tbG_in (List.mem_of_getElem? (i := 620) (by decide +kernel)) rfl
theorem m_621 : Cond.selects "IharaZeta$Grouping" ⟨"IharaZeta$Grouping","countTrees","(LIharaZeta$Graph;)I"⟩ ⟨"IharaZeta$Grouping","countTrees","(LIharaZeta$Graph;)I"⟩ ∈ tbG := tbG_in (List.mem_of_getElem? (i := 621) (by decide +kernel)) rfl
theorem m_622 : Cond.code ⟨"IharaZeta$Grouping","countTrees","(LIharaZeta$Graph;)I"⟩ prog_5_method_4_code 4 (some FieldType.int) ∈ tbG := tbG_in (List.mem_of_getElem? (i := 622) (by decide +kernel)) rfl
theorem m_623 : Cond.methodLink "IharaZeta$Grouping" 38 ⟨"java/lang/Integer","bitCount","(I)I"⟩ ∈ tbG := tbG_in (List.mem_of_getElem? (i := 623) (by decide +kernel)) rfl
theorem m_624 : Cond.methodLink "IharaZeta$Grouping" 44 ⟨"IharaZeta$Grouping","isForest","(LIharaZeta$Graph;I)Z"⟩ ∈ tbG := tbG_in (List.mem_of_getElem? (i := 624) (by decide +kernel)) rfl
theorem m_626 : Cond.instanceMethod ⟨"IharaZeta$Grouping","isForest","(LIharaZeta$Graph;I)Z"⟩ ∈ tbG := tbG_in (List.mem_of_getElem? (i := 626) (by decide +kernel)) rfl
theorem m_627 : Cond.code ⟨"IharaZeta$Grouping","isForest","(LIharaZeta$Graph;I)Z"⟩ prog_5_method_5_code 5 (some FieldType.boolean) ∈ tbG := tbG_in (List.mem_of_getElem? (i := 627) (by decide +kernel)) rfl
theorem m_628 : Cond.methodLink "IharaZetaLaw" 158 ⟨"IharaZeta","components","()I"⟩ ∈ tbG := tbG_in (List.mem_of_getElem? (i := 628) (by decide +kernel)) rfl
theorem m_629 : Cond.instanceMethod ⟨"IharaZeta","components","()I"⟩ ∈ tbG := tbG_in (List.mem_of_getElem? (i := 629) (by decide +kernel)) rfl
theorem m_630 : Cond.selects "IharaZeta" ⟨"IharaZeta","components","()I"⟩ ⟨"IharaZeta","components","()I"⟩ ∈ tbG := tbG_in (List.mem_of_getElem? (i := 630) (by decide +kernel)) rfl
theorem m_631 : Cond.code ⟨"IharaZeta","components","()I"⟩ prog_1_method_15_code 1 (some FieldType.int) ∈ tbG := tbG_in (List.mem_of_getElem? (i := 631) (by decide +kernel)) rfl
theorem m_632 : Cond.methodLink "IharaZeta" 139 ⟨"IharaZeta$Grouping","countGroups","(LIharaZeta$Graph;)I"⟩ ∈ tbG := tbG_in (List.mem_of_getElem? (i := 632) (by decide +kernel)) rfl
theorem m_633 : Cond.instanceMethod ⟨"IharaZeta$Grouping","countGroups","(LIharaZeta$Graph;)I"⟩ ∈ tbG := tbG_in (List.mem_of_getElem? (i := 633) (by decide +kernel)) rfl
theorem m_634 : Cond.selects "IharaZeta$Grouping" ⟨"IharaZeta$Grouping","countGroups","(LIharaZeta$Graph;)I"⟩ ⟨"IharaZeta$Grouping","countGroups","(LIharaZeta$Graph;)I"⟩ ∈ tbG := tbG_in (List.mem_of_getElem? (i := 634) (by decide +kernel)) rfl
theorem m_635 : Cond.code ⟨"IharaZeta$Grouping","countGroups","(LIharaZeta$Graph;)I"⟩ prog_5_method_2_code 4 (some FieldType.int) ∈ tbG := tbG_in (List.mem_of_getElem? (i := 635) (by decide +kernel)) rfl
theorem m_636 : Cond.methodLink "IharaZetaLaw" 206 ⟨"IharaZetaLaw","known","(LIharaZeta;)Z"⟩ ∈ tbG := tbG_in (List.mem_of_getElem? (i := 636) (by decide +kernel)) rfl
theorem m_637 : Cond.static ⟨"IharaZetaLaw","known","(LIharaZeta;)Z"⟩ ∈ tbG := tbG_in (List.mem_of_getElem? (i := 637) (by decide +kernel)) rfl
theorem m_639 : Cond.methodLink "IharaZetaLaw" 161 ⟨"IharaZeta","girth","()I"⟩ ∈ tbG := tbG_in (List.mem_of_getElem? (i := 639) (by decide +kernel)) rfl
theorem m_640 : Cond.instanceMethod ⟨"IharaZeta","girth","()I"⟩ ∈ tbG := tbG_in (List.mem_of_getElem? (i := 640) (by decide +kernel)) rfl
theorem m_641 : Cond.selects "IharaZeta" ⟨"IharaZeta","girth","()I"⟩ ⟨"IharaZeta","girth","()I"⟩ ∈ tbG := tbG_in (List.mem_of_getElem? (i := 641) (by decide +kernel)) rfl
theorem m_642 : Cond.code ⟨"IharaZeta","girth","()I"⟩ prog_1_method_23_code 2 (some FieldType.int) ∈ tbG := tbG_in (List.mem_of_getElem? (i := 642) (by decide +kernel)) rfl
theorem m_643 : Cond.methodLink "IharaZetaLaw" 164 ⟨"IharaZeta","period","()I"⟩ ∈ tbG := tbG_in (List.mem_of_getElem? (i := 643) (by decide +kernel)) rfl
theorem m_644 : Cond.instanceMethod ⟨"IharaZeta","period","()I"⟩ ∈ tbG := tbG_in (List.mem_of_getElem? (i := 644) (by decide +kernel)) rfl
theorem m_645 : Cond.selects "IharaZeta" ⟨"IharaZeta","period","()I"⟩ ⟨"IharaZeta","period","()I"⟩ ∈ tbG := tbG_in (List.mem_of_getElem? (i := 645) (by decide +kernel)) rfl
theorem m_646 : Cond.code ⟨"IharaZeta","period","()I"⟩ prog_1_method_24_code 3 (some FieldType.int) ∈ tbG := tbG_in (List.mem_of_getElem? (i := 646) (by decide +kernel)) rfl
theorem m_647 : Cond.methodLink "IharaZeta" 178 ⟨"IharaZeta","commonDivisor","(II)I"⟩ ∈ tbG := tbG_in (List.mem_of_getElem? (i := 647) (by decide +kernel)) rfl
theorem m_648 : Cond.static ⟨"IharaZeta","commonDivisor","(II)I"⟩ ∈ tbG := tbG_in (List.mem_of_getElem? (i := 648) (by decide +kernel)) rfl
theorem m_649 : Cond.code ⟨"IharaZeta","commonDivisor","(II)I"⟩ prog_1_method_40_code 3 (some FieldType.int) ∈ tbG := tbG_in (List.mem_of_getElem? (i := 649) (by decide +kernel)) rfl
theorem m_650 : Cond.constantLong "IharaZetaLaw" 167 (-1 : Int64) ∈ tbG := tbG_in (List.mem_of_getElem? (i := 650) (by decide +kernel)) rfl
theorem m_651 : Cond.methodLink "IharaZetaLaw" 169 ⟨"IharaZeta","rank","()I"⟩ ∈ tbG := tbG_in (List.mem_of_getElem? (i := 651) (by decide +kernel)) rfl
theorem m_652 : Cond.instanceMethod ⟨"IharaZeta","rank","()I"⟩ ∈ tbG := tbG_in (List.mem_of_getElem? (i := 652) (by decide +kernel)) rfl
theorem m_653 : Cond.selects "IharaZeta" ⟨"IharaZeta","rank","()I"⟩ ⟨"IharaZeta","rank","()I"⟩ ∈ tbG := tbG_in (List.mem_of_getElem? (i := 653) (by decide +kernel)) rfl
theorem m_654 : Cond.code ⟨"IharaZeta","rank","()I"⟩ prog_1_method_16_code 1 (some FieldType.int) ∈ tbG := tbG_in (List.mem_of_getElem? (i := 654) (by decide +kernel)) rfl
theorem m_655 : Cond.constantLong "IharaZetaLaw" 172 (-2 : Int64) ∈ tbG := tbG_in (List.mem_of_getElem? (i := 655) (by decide +kernel)) rfl
theorem m_656 : Cond.constantLong "IharaZetaLaw" 174 (2 : Int64) ∈ tbG := tbG_in (List.mem_of_getElem? (i := 656) (by decide +kernel)) rfl
theorem m_657 : Cond.constantLong "IharaZetaLaw" 176 (5 : Int64) ∈ tbG := tbG_in (List.mem_of_getElem? (i := 657) (by decide +kernel)) rfl
theorem m_658 : Cond.constantLong "IharaZetaLaw" 178 (49 : Int64) ∈ tbG := tbG_in (List.mem_of_getElem? (i := 658) (by decide +kernel)) rfl
theorem m_659 : Cond.constantLong "IharaZetaLaw" 180 (4 : Int64) ∈ tbG := tbG_in (List.mem_of_getElem? (i := 659) (by decide +kernel)) rfl
theorem m_660 : Cond.constantLong "IharaZetaLaw" 182 (81 : Int64) ∈ tbG := tbG_in (List.mem_of_getElem? (i := 660) (by decide +kernel)) rfl
theorem m_661 : Cond.constantLong "IharaZetaLaw" 184 (6 : Int64) ∈ tbG := tbG_in (List.mem_of_getElem? (i := 661) (by decide +kernel)) rfl
theorem m_662 : Cond.constantLong "IharaZetaLaw" 186 (12 : Int64) ∈ tbG := tbG_in (List.mem_of_getElem? (i := 662) (by decide +kernel)) rfl
theorem m_663 : Cond.constantLong "IharaZetaLaw" 188 (9 : Int64) ∈ tbG := tbG_in (List.mem_of_getElem? (i := 663) (by decide +kernel)) rfl
theorem m_664 : Cond.constantLong "IharaZetaLaw" 190 (-4 : Int64) ∈ tbG := tbG_in (List.mem_of_getElem? (i := 664) (by decide +kernel)) rfl
theorem m_665 : Cond.constantLong "IharaZetaLaw" 192 (-5 : Int64) ∈ tbG := tbG_in (List.mem_of_getElem? (i := 665) (by decide +kernel)) rfl
theorem m_666 : Cond.constantLong "IharaZetaLaw" 194 (-135 : Int64) ∈ tbG := tbG_in (List.mem_of_getElem? (i := 666) (by decide +kernel)) rfl
theorem m_667 : Cond.constantLong "IharaZetaLaw" 196 (-12 : Int64) ∈ tbG := tbG_in (List.mem_of_getElem? (i := 667) (by decide +kernel)) rfl
