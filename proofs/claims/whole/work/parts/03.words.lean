def tbG : List Cond := lw_tbl.filter goodWord
theorem tbG_in {w : Cond} (h : w ∈ lw_tbl) (hg : goodWord w = true) : w ∈ tbG := List.mem_filter.mpr ⟨h, hg⟩
theorem tbG_sub {w : Cond} (h : w ∈ tbG) : w ∈ lw_tbl := (List.mem_filter.mp h).1
theorem tbG_good {w : Cond} (h : w ∈ tbG) : goodWord w = true := (List.mem_filter.mp h).2
theorem m_0 : Cond.selects "IharaZeta$History" ⟨"IharaZeta$History","discardOldest","()V"⟩ ⟨"IharaZeta$History","discardOldest","()V"⟩ ∈ tbG := tbG_in (List.mem_of_getElem? (i := 0) (by decide +kernel)) rfl
theorem m_1 : Cond.selects "IharaZeta$EdgeText" ⟨"IharaZeta$EdgeText","accept","(ILIharaZeta$Graph;)Z"⟩ ⟨"IharaZeta$EdgeText","accept","(ILIharaZeta$Graph;)Z"⟩ ∈ tbG := tbG_in (List.mem_of_getElem? (i := 1) (by decide +kernel)) rfl
theorem m_2 : Cond.selects "IharaZeta$EdgeText" ⟨"IharaZeta$EdgeText","acceptFirst","(ILIharaZeta$Graph;)Z"⟩ ⟨"IharaZeta$EdgeText","acceptFirst","(ILIharaZeta$Graph;)Z"⟩ ∈ tbG := tbG_in (List.mem_of_getElem? (i := 2) (by decide +kernel)) rfl
theorem m_3 : Cond.selects "IharaZeta$EdgeText" ⟨"IharaZeta$EdgeText","acceptSign","(I)Z"⟩ ⟨"IharaZeta$EdgeText","acceptSign","(I)Z"⟩ ∈ tbG := tbG_in (List.mem_of_getElem? (i := 3) (by decide +kernel)) rfl
theorem m_4 : Cond.selects "IharaZeta$EdgeText" ⟨"IharaZeta$EdgeText","acceptSecond","(ILIharaZeta$Graph;)Z"⟩ ⟨"IharaZeta$EdgeText","acceptSecond","(ILIharaZeta$Graph;)Z"⟩ ∈ tbG := tbG_in (List.mem_of_getElem? (i := 4) (by decide +kernel)) rfl
theorem m_5 : Cond.selects "IharaZeta$EdgeText" ⟨"IharaZeta$EdgeText","acceptEnd","(ILIharaZeta$Graph;)Z"⟩ ⟨"IharaZeta$EdgeText","acceptEnd","(ILIharaZeta$Graph;)Z"⟩ ∈ tbG := tbG_in (List.mem_of_getElem? (i := 5) (by decide +kernel)) rfl
theorem m_6 : Cond.selects "IharaZeta$Grouping" ⟨"IharaZeta$Grouping","separate","()V"⟩ ⟨"IharaZeta$Grouping","separate","()V"⟩ ∈ tbG := tbG_in (List.mem_of_getElem? (i := 6) (by decide +kernel)) rfl
theorem m_7 : Cond.selects "IharaZeta$Grouping" ⟨"IharaZeta$Grouping","unite","(LIharaZeta$Graph;I)Z"⟩ ⟨"IharaZeta$Grouping","unite","(LIharaZeta$Graph;I)Z"⟩ ∈ tbG := tbG_in (List.mem_of_getElem? (i := 7) (by decide +kernel)) rfl
theorem m_8 : Cond.selects "IharaZeta$Grouping" ⟨"IharaZeta$Grouping","turnFor","(LIharaZeta$Graph;I)I"⟩ ⟨"IharaZeta$Grouping","turnFor","(LIharaZeta$Graph;I)I"⟩ ∈ tbG := tbG_in (List.mem_of_getElem? (i := 8) (by decide +kernel)) rfl
theorem m_9 : Cond.selects "IharaZeta$WalkCounter" ⟨"IharaZeta$WalkCounter","addReturns","(LIharaZeta$Graph;Z[J)V"⟩ ⟨"IharaZeta$WalkCounter","addReturns","(LIharaZeta$Graph;Z[J)V"⟩ ∈ tbG := tbG_in (List.mem_of_getElem? (i := 9) (by decide +kernel)) rfl
theorem m_10 : Cond.selects "IharaZeta$WalkCounter" ⟨"IharaZeta$WalkCounter","goOn","(LIharaZeta$Graph;Z)V"⟩ ⟨"IharaZeta$WalkCounter","goOn","(LIharaZeta$Graph;Z)V"⟩ ∈ tbG := tbG_in (List.mem_of_getElem? (i := 10) (by decide +kernel)) rfl
theorem m_11 : Cond.selects "IharaZeta$PrimeSearch" ⟨"IharaZeta$PrimeSearch","extend","(LIharaZeta$Graph;III)Z"⟩ ⟨"IharaZeta$PrimeSearch","extend","(LIharaZeta$Graph;III)Z"⟩ ∈ tbG := tbG_in (List.mem_of_getElem? (i := 11) (by decide +kernel)) rfl
theorem m_12 : Cond.selects "IharaZeta$PrimeSearch" ⟨"IharaZeta$PrimeSearch","isWanted","(LIharaZeta$Graph;II)Z"⟩ ⟨"IharaZeta$PrimeSearch","isWanted","(LIharaZeta$Graph;II)Z"⟩ ∈ tbG := tbG_in (List.mem_of_getElem? (i := 12) (by decide +kernel)) rfl
theorem m_13 : Cond.selects "IharaZeta" ⟨"IharaZeta","makeEdgePolynomial","()V"⟩ ⟨"IharaZeta","makeEdgePolynomial","()V"⟩ ∈ tbG := tbG_in (List.mem_of_getElem? (i := 13) (by decide +kernel)) rfl
theorem m_14 : Cond.selects "IharaZeta$VertexPolynomial" ⟨"IharaZeta$VertexPolynomial","makeMinor","(LIharaZeta$Graph;I)V"⟩ ⟨"IharaZeta$VertexPolynomial","makeMinor","(LIharaZeta$Graph;I)V"⟩ ∈ tbG := tbG_in (List.mem_of_getElem? (i := 14) (by decide +kernel)) rfl
theorem m_15 : Cond.selects "IharaZeta$Grouping" ⟨"IharaZeta$Grouping","isForest","(LIharaZeta$Graph;I)Z"⟩ ⟨"IharaZeta$Grouping","isForest","(LIharaZeta$Graph;I)Z"⟩ ∈ tbG := tbG_in (List.mem_of_getElem? (i := 15) (by decide +kernel)) rfl
theorem m_16 : Cond.selects "IharaZetaModel" ⟨"IharaZetaModel","save","()V"⟩ ⟨"IharaZetaModel","save","()V"⟩ ∈ tbG := tbG_in (List.mem_of_getElem? (i := 16) (by decide +kernel)) rfl
theorem m_17 : Cond.selects "IharaZetaModel" ⟨"IharaZetaModel","isVertex","(I)Z"⟩ ⟨"IharaZetaModel","isVertex","(I)Z"⟩ ∈ tbG := tbG_in (List.mem_of_getElem? (i := 17) (by decide +kernel)) rfl
theorem m_18 : Cond.selects "IharaZetaModel" ⟨"IharaZetaModel","isEdge","(I)Z"⟩ ⟨"IharaZetaModel","isEdge","(I)Z"⟩ ∈ tbG := tbG_in (List.mem_of_getElem? (i := 18) (by decide +kernel)) rfl
theorem m_19 : Cond.selects "IharaZetaModel" ⟨"IharaZetaModel","reads","()I"⟩ ⟨"IharaZetaModel","reads","()I"⟩ ∈ tbG := tbG_in (List.mem_of_getElem? (i := 19) (by decide +kernel)) rfl
theorem m_20 : Cond.selects "IharaZetaModel" ⟨"IharaZetaModel","takes","(I)Z"⟩ ⟨"IharaZetaModel","takes","(I)Z"⟩ ∈ tbG := tbG_in (List.mem_of_getElem? (i := 20) (by decide +kernel)) rfl
theorem m_21 : Cond.selects "IharaZetaModel" ⟨"IharaZetaModel","isDirected","(I)Z"⟩ ⟨"IharaZetaModel","isDirected","(I)Z"⟩ ∈ tbG := tbG_in (List.mem_of_getElem? (i := 21) (by decide +kernel)) rfl
theorem m_22 : Cond.selects "IharaZetaModel" ⟨"IharaZetaModel","endOf","(II)I"⟩ ⟨"IharaZetaModel","endOf","(II)I"⟩ ∈ tbG := tbG_in (List.mem_of_getElem? (i := 22) (by decide +kernel)) rfl
theorem m_23 : Cond.selects "IharaZetaModel" ⟨"IharaZetaModel","isNext","(II)Z"⟩ ⟨"IharaZetaModel","isNext","(II)Z"⟩ ∈ tbG := tbG_in (List.mem_of_getElem? (i := 23) (by decide +kernel)) rfl
theorem m_24 : Cond.selects "IharaZetaModel" ⟨"IharaZetaModel","degreeOf","(I)I"⟩ ⟨"IharaZetaModel","degreeOf","(I)I"⟩ ∈ tbG := tbG_in (List.mem_of_getElem? (i := 24) (by decide +kernel)) rfl
theorem m_25 : Cond.selects "IharaZetaModel" ⟨"IharaZetaModel","partsNow","()I"⟩ ⟨"IharaZetaModel","partsNow","()I"⟩ ∈ tbG := tbG_in (List.mem_of_getElem? (i := 25) (by decide +kernel)) rfl
theorem m_26 : Cond.selects "IharaZetaModel" ⟨"IharaZetaModel","signOf","(I)I"⟩ ⟨"IharaZetaModel","signOf","(I)I"⟩ ∈ tbG := tbG_in (List.mem_of_getElem? (i := 26) (by decide +kernel)) rfl
theorem m_27 : Cond.selects "IharaZetaModel" ⟨"IharaZetaModel","walksOf","(ZI)J"⟩ ⟨"IharaZetaModel","walksOf","(ZI)J"⟩ ∈ tbG := tbG_in (List.mem_of_getElem? (i := 27) (by decide +kernel)) rfl
theorem m_28 : Cond.selects "IharaZetaModel" ⟨"IharaZetaModel","laysTraces","(ZI[J)V"⟩ ⟨"IharaZetaModel","laysTraces","(ZI[J)V"⟩ ∈ tbG := tbG_in (List.mem_of_getElem? (i := 28) (by decide +kernel)) rfl
theorem m_29 : Cond.selects "IharaZetaModel" ⟨"IharaZetaModel","laysEdges","(Z)V"⟩ ⟨"IharaZetaModel","laysEdges","(Z)V"⟩ ∈ tbG := tbG_in (List.mem_of_getElem? (i := 29) (by decide +kernel)) rfl
theorem m_30 : Cond.selects "IharaZetaModel" ⟨"IharaZetaModel","goesOn","()V"⟩ ⟨"IharaZetaModel","goesOn","()V"⟩ ∈ tbG := tbG_in (List.mem_of_getElem? (i := 30) (by decide +kernel)) rfl
theorem m_31 : Cond.selects "IharaZetaModel" ⟨"IharaZetaModel","laysPrimes","(I)V"⟩ ⟨"IharaZetaModel","laysPrimes","(I)V"⟩ ∈ tbG := tbG_in (List.mem_of_getElem? (i := 31) (by decide +kernel)) rfl
theorem m_32 : Cond.selects "IharaZetaModel" ⟨"IharaZetaModel","finds","(II)Z"⟩ ⟨"IharaZetaModel","finds","(II)Z"⟩ ∈ tbG := tbG_in (List.mem_of_getElem? (i := 32) (by decide +kernel)) rfl
theorem m_33 : Cond.selects "IharaZetaModel" ⟨"IharaZetaModel","isFirst","(I)Z"⟩ ⟨"IharaZetaModel","isFirst","(I)Z"⟩ ∈ tbG := tbG_in (List.mem_of_getElem? (i := 33) (by decide +kernel)) rfl
theorem m_34 : Cond.selects "IharaZetaModel" ⟨"IharaZetaModel","laysEdgePoly","()V"⟩ ⟨"IharaZetaModel","laysEdgePoly","()V"⟩ ∈ tbG := tbG_in (List.mem_of_getElem? (i := 34) (by decide +kernel)) rfl
theorem m_35 : Cond.selects "IharaZetaModel" ⟨"IharaZetaModel","laysPoly","()V"⟩ ⟨"IharaZetaModel","laysPoly","()V"⟩ ∈ tbG := tbG_in (List.mem_of_getElem? (i := 35) (by decide +kernel)) rfl
theorem m_36 : Cond.selects "IharaZetaModel" ⟨"IharaZetaModel","clears","([J)V"⟩ ⟨"IharaZetaModel","clears","([J)V"⟩ ∈ tbG := tbG_in (List.mem_of_getElem? (i := 36) (by decide +kernel)) rfl
theorem m_37 : Cond.selects "IharaZetaModel" ⟨"IharaZetaModel","laysStep","(I)V"⟩ ⟨"IharaZetaModel","laysStep","(I)V"⟩ ∈ tbG := tbG_in (List.mem_of_getElem? (i := 37) (by decide +kernel)) rfl
theorem m_38 : Cond.selects "IharaZetaModel" ⟨"IharaZetaModel","laysVertices","()V"⟩ ⟨"IharaZetaModel","laysVertices","()V"⟩ ∈ tbG := tbG_in (List.mem_of_getElem? (i := 38) (by decide +kernel)) rfl
theorem m_39 : Cond.selects "IharaZetaModel" ⟨"IharaZetaModel","laysBassPoly","()V"⟩ ⟨"IharaZetaModel","laysBassPoly","()V"⟩ ∈ tbG := tbG_in (List.mem_of_getElem? (i := 39) (by decide +kernel)) rfl
theorem m_40 : Cond.selects "IharaZetaModel" ⟨"IharaZetaModel","laysTrees","()V"⟩ ⟨"IharaZetaModel","laysTrees","()V"⟩ ∈ tbG := tbG_in (List.mem_of_getElem? (i := 40) (by decide +kernel)) rfl
theorem m_41 : Cond.initialized "IharaZetaLaw" ∈ tbG := tbG_in (List.mem_of_getElem? (i := 41) (by decide +kernel)) rfl
theorem m_42 : Cond.initialized "IharaZeta" ∈ tbG := tbG_in (List.mem_of_getElem? (i := 42) (by decide +kernel)) rfl
theorem m_43 : Cond.initialized "IharaZeta$Graph" ∈ tbG := tbG_in (List.mem_of_getElem? (i := 43) (by decide +kernel)) rfl
theorem m_44 : Cond.initialized "IharaZeta$History" ∈ tbG := tbG_in (List.mem_of_getElem? (i := 44) (by decide +kernel)) rfl
theorem m_45 : Cond.initialized "IharaZeta$EdgeText" ∈ tbG := tbG_in (List.mem_of_getElem? (i := 45) (by decide +kernel)) rfl
theorem m_46 : Cond.initialized "IharaZeta$Grouping" ∈ tbG := tbG_in (List.mem_of_getElem? (i := 46) (by decide +kernel)) rfl
theorem m_47 : Cond.initialized "IharaZeta$WalkCounter" ∈ tbG := tbG_in (List.mem_of_getElem? (i := 47) (by decide +kernel)) rfl
theorem m_48 : Cond.initialized "IharaZeta$PrimeSearch" ∈ tbG := tbG_in (List.mem_of_getElem? (i := 48) (by decide +kernel)) rfl
theorem m_49 : Cond.initialized "IharaZeta$EdgePolynomial" ∈ tbG := tbG_in (List.mem_of_getElem? (i := 49) (by decide +kernel)) rfl
theorem m_50 : Cond.initialized "IharaZeta$VertexPolynomial" ∈ tbG := tbG_in (List.mem_of_getElem? (i := 50) (by decide +kernel)) rfl
theorem m_51 : Cond.initialized "IharaZetaModel" ∈ tbG := tbG_in (List.mem_of_getElem? (i := 51) (by decide +kernel)) rfl
theorem m_52 : Cond.initialized "java/util/Arrays" ∈ tbG := tbG_in (List.mem_of_getElem? (i := 52) (by decide +kernel)) rfl
theorem m_53 : Cond.initialized "java/lang/Integer" ∈ tbG := tbG_in (List.mem_of_getElem? (i := 53) (by decide +kernel)) rfl
theorem m_54 : Cond.initialized "java/lang/System" ∈ tbG := tbG_in (List.mem_of_getElem? (i := 54) (by decide +kernel)) rfl
theorem m_55 : Cond.classLink "IharaZetaLaw" 7 "IharaZeta" ∈ tbG := tbG_in (List.mem_of_getElem? (i := 55) (by decide +kernel)) rfl
theorem m_56 : Cond.instantiable "IharaZeta" 9 ∈ tbG := tbG_in (List.mem_of_getElem? (i := 56) (by decide +kernel)) rfl
theorem m_57 : Cond.methodLink "IharaZetaLaw" 9 ⟨"IharaZeta","<init>","()V"⟩ ∈ tbG := tbG_in (List.mem_of_getElem? (i := 57) (by decide +kernel)) rfl
theorem m_58 : Cond.instanceMethod ⟨"IharaZeta","<init>","()V"⟩ ∈ tbG := tbG_in (List.mem_of_getElem? (i := 58) (by decide +kernel)) rfl
theorem m_59 : Cond.code ⟨"IharaZeta","<init>","()V"⟩ prog_1_method_1_code 1 (none : Option FieldType) ∈ tbG := tbG_in (List.mem_of_getElem? (i := 59) (by decide +kernel)) rfl
theorem m_60 : Cond.methodLink "IharaZeta" 3 ⟨"java/lang/Object","<init>","()V"⟩ ∈ tbG := tbG_in (List.mem_of_getElem? (i := 60) (by decide +kernel)) rfl
theorem m_61 : Cond.instanceMethod ⟨"java/lang/Object","<init>","()V"⟩ ∈ tbG := tbG_in (List.mem_of_getElem? (i := 61) (by decide +kernel)) rfl
theorem m_62 : Cond.code ⟨"java/lang/Object","<init>","()V"⟩ object_method_1_code 1 (none : Option FieldType) ∈ tbG := tbG_in (List.mem_of_getElem? (i := 62) (by decide +kernel)) rfl
theorem m_63 : Cond.classLink "IharaZeta" 9 "IharaZeta$Graph" ∈ tbG := tbG_in (List.mem_of_getElem? (i := 63) (by decide +kernel)) rfl
theorem m_64 : Cond.instantiable "IharaZeta$Graph" 5 ∈ tbG := tbG_in (List.mem_of_getElem? (i := 64) (by decide +kernel)) rfl
theorem m_65 : Cond.methodLinkNest "IharaZeta" 11 ⟨"IharaZeta$Graph","<init>","()V"⟩ "IharaZeta" ∈ lw_tbl := List.mem_of_getElem? (i := 65) (by decide +kernel)
theorem m_66 : Cond.instanceMethod ⟨"IharaZeta$Graph","<init>","()V"⟩ ∈ tbG := tbG_in (List.mem_of_getElem? (i := 66) (by decide +kernel)) rfl
theorem m_67 : Cond.code ⟨"IharaZeta$Graph","<init>","()V"⟩ prog_4_method_1_code 1 (none : Option FieldType) ∈ tbG := tbG_in (List.mem_of_getElem? (i := 67) (by decide +kernel)) rfl
theorem m_68 : Cond.methodLink "IharaZeta$Graph" 3 ⟨"java/lang/Object","<init>","()V"⟩ ∈ tbG := tbG_in (List.mem_of_getElem? (i := 68) (by decide +kernel)) rfl
theorem m_69 : Cond.fieldLink "IharaZeta$Graph" 9 "IharaZeta$Graph" "vertices" "I" ∈ tbG := tbG_in (List.mem_of_getElem? (i := 69) (by decide +kernel)) rfl
theorem m_70 : Cond.fieldLinkNest "IharaZeta$Grouping" 21 "IharaZeta$Graph" "vertices" "I" "IharaZeta" ∈ lw_tbl := List.mem_of_getElem? (i := 70) (by decide +kernel)
theorem m_71 : Cond.fieldLinkNest "IharaZeta" 70 "IharaZeta$Graph" "vertices" "I" "IharaZeta" ∈ lw_tbl := List.mem_of_getElem? (i := 71) (by decide +kernel)
theorem m_72 : Cond.fieldLinkNest "IharaZeta$VertexPolynomial" 26 "IharaZeta$Graph" "vertices" "I" "IharaZeta" ∈ lw_tbl := List.mem_of_getElem? (i := 72) (by decide +kernel)
theorem m_73 : Cond.fieldLink "IharaZeta$Graph" 15 "IharaZeta$Graph" "edges" "I" ∈ tbG := tbG_in (List.mem_of_getElem? (i := 73) (by decide +kernel)) rfl
theorem m_74 : Cond.fieldLinkNest "IharaZeta$Grouping" 27 "IharaZeta$Graph" "edges" "I" "IharaZeta" ∈ lw_tbl := List.mem_of_getElem? (i := 74) (by decide +kernel)
theorem m_75 : Cond.fieldLinkNest "IharaZeta" 94 "IharaZeta$Graph" "edges" "I" "IharaZeta" ∈ lw_tbl := List.mem_of_getElem? (i := 75) (by decide +kernel)
theorem m_76 : Cond.fieldLinkNest "IharaZeta$PrimeSearch" 32 "IharaZeta$Graph" "edges" "I" "IharaZeta" ∈ lw_tbl := List.mem_of_getElem? (i := 76) (by decide +kernel)
theorem m_77 : Cond.fieldLinkNest "IharaZeta$WalkCounter" 50 "IharaZeta$Graph" "edges" "I" "IharaZeta" ∈ lw_tbl := List.mem_of_getElem? (i := 77) (by decide +kernel)
theorem m_78 : Cond.fieldLink "IharaZeta$Graph" 18 "IharaZeta$Graph" "firsts" "[I" ∈ tbG := tbG_in (List.mem_of_getElem? (i := 78) (by decide +kernel)) rfl
theorem m_79 : Cond.fieldLinkNest "IharaZeta$Grouping" 47 "IharaZeta$Graph" "firsts" "[I" "IharaZeta" ∈ lw_tbl := List.mem_of_getElem? (i := 79) (by decide +kernel)
theorem m_80 : Cond.fieldLink "IharaZeta$Graph" 22 "IharaZeta$Graph" "seconds" "[I" ∈ tbG := tbG_in (List.mem_of_getElem? (i := 80) (by decide +kernel)) rfl
theorem m_81 : Cond.fieldLinkNest "IharaZeta$Grouping" 50 "IharaZeta$Graph" "seconds" "[I" "IharaZeta" ∈ lw_tbl := List.mem_of_getElem? (i := 81) (by decide +kernel)
theorem m_82 : Cond.fieldLink "IharaZeta$Graph" 25 "IharaZeta$Graph" "signs" "[I" ∈ tbG := tbG_in (List.mem_of_getElem? (i := 82) (by decide +kernel)) rfl
theorem m_83 : Cond.fieldLinkNest "IharaZeta$PrimeSearch" 23 "IharaZeta$Graph" "signs" "[I" "IharaZeta" ∈ lw_tbl := List.mem_of_getElem? (i := 83) (by decide +kernel)
theorem m_84 : Cond.fieldLinkNest "IharaZeta" 103 "IharaZeta$Graph" "signs" "[I" "IharaZeta" ∈ lw_tbl := List.mem_of_getElem? (i := 84) (by decide +kernel)
theorem m_85 : Cond.fieldLinkNest "IharaZeta$WalkCounter" 66 "IharaZeta$Graph" "signs" "[I" "IharaZeta" ∈ lw_tbl := List.mem_of_getElem? (i := 85) (by decide +kernel)
theorem m_86 : Cond.fieldLinkNest "IharaZeta$Grouping" 53 "IharaZeta$Graph" "signs" "[I" "IharaZeta" ∈ lw_tbl := List.mem_of_getElem? (i := 86) (by decide +kernel)
theorem m_87 : Cond.lays "IharaZeta$Graph" "IharaZeta$Graph" "vertices" "I" ∈ tbG := tbG_in (List.mem_of_getElem? (i := 87) (by decide +kernel)) rfl
theorem m_89 : Cond.lays "IharaZeta$Graph" "IharaZeta$Graph" "edges" "I" ∈ tbG := tbG_in (List.mem_of_getElem? (i := 89) (by decide +kernel)) rfl
theorem m_91 : Cond.laysFinal "IharaZeta$Graph" "IharaZeta$Graph" "firsts" "[I" ∈ tbG := tbG_in (List.mem_of_getElem? (i := 91) (by decide +kernel)) rfl
theorem m_93 : Cond.laysFinal "IharaZeta$Graph" "IharaZeta$Graph" "seconds" "[I" ∈ tbG := tbG_in (List.mem_of_getElem? (i := 93) (by decide +kernel)) rfl
theorem m_95 : Cond.laysFinal "IharaZeta$Graph" "IharaZeta$Graph" "signs" "[I" ∈ tbG := tbG_in (List.mem_of_getElem? (i := 95) (by decide +kernel)) rfl
theorem m_98 : Cond.arrayClass FieldType.int ∈ tbG := tbG_in (List.mem_of_getElem? (i := 98) (by decide +kernel)) rfl
theorem m_99 : Cond.classLink "IharaZeta" 21 "IharaZeta$History" ∈ tbG := tbG_in (List.mem_of_getElem? (i := 99) (by decide +kernel)) rfl
theorem m_100 : Cond.instantiable "IharaZeta$History" 2 ∈ tbG := tbG_in (List.mem_of_getElem? (i := 100) (by decide +kernel)) rfl
theorem m_101 : Cond.methodLink "IharaZeta" 23 ⟨"IharaZeta$History","<init>","()V"⟩ ∈ tbG := tbG_in (List.mem_of_getElem? (i := 101) (by decide +kernel)) rfl
theorem m_102 : Cond.instanceMethod ⟨"IharaZeta$History","<init>","()V"⟩ ∈ tbG := tbG_in (List.mem_of_getElem? (i := 102) (by decide +kernel)) rfl
theorem m_103 : Cond.code ⟨"IharaZeta$History","<init>","()V"⟩ prog_6_method_1_code 2 (none : Option FieldType) ∈ tbG := tbG_in (List.mem_of_getElem? (i := 103) (by decide +kernel)) rfl
theorem m_104 : Cond.methodLink "IharaZeta$History" 3 ⟨"java/lang/Object","<init>","()V"⟩ ∈ tbG := tbG_in (List.mem_of_getElem? (i := 104) (by decide +kernel)) rfl
theorem m_105 : Cond.classLink "IharaZeta$History" 15 "IharaZeta$Graph" ∈ tbG := tbG_in (List.mem_of_getElem? (i := 105) (by decide +kernel)) rfl
theorem m_106 : Cond.arrayOver (FieldType.object "IharaZeta$Graph") ∈ lw_tbl := List.mem_of_getElem? (i := 106) (by decide +kernel)
theorem m_107 : Cond.methodLinkNest "IharaZeta$History" 21 ⟨"IharaZeta$Graph","<init>","()V"⟩ "IharaZeta" ∈ lw_tbl := List.mem_of_getElem? (i := 107) (by decide +kernel)
theorem m_108 : Cond.fieldLink "IharaZeta$History" 9 "IharaZeta$History" "count" "I" ∈ tbG := tbG_in (List.mem_of_getElem? (i := 108) (by decide +kernel)) rfl
theorem m_109 : Cond.fieldLinkNest "IharaZeta" 119 "IharaZeta$History" "count" "I" "IharaZeta" ∈ lw_tbl := List.mem_of_getElem? (i := 109) (by decide +kernel)
theorem m_110 : Cond.fieldLink "IharaZeta$History" 17 "IharaZeta$History" "saved" "[LIharaZeta$Graph;" ∈ tbG := tbG_in (List.mem_of_getElem? (i := 110) (by decide +kernel)) rfl
theorem m_111 : Cond.lays "IharaZeta$History" "IharaZeta$History" "count" "I" ∈ tbG := tbG_in (List.mem_of_getElem? (i := 111) (by decide +kernel)) rfl
theorem m_113 : Cond.laysFinal "IharaZeta$History" "IharaZeta$History" "saved" "[LIharaZeta$Graph;" ∈ tbG := tbG_in (List.mem_of_getElem? (i := 113) (by decide +kernel)) rfl
theorem m_116 : Cond.classLink "IharaZeta" 28 "IharaZeta$EdgeText" ∈ tbG := tbG_in (List.mem_of_getElem? (i := 116) (by decide +kernel)) rfl
theorem m_117 : Cond.instantiable "IharaZeta$EdgeText" 6 ∈ tbG := tbG_in (List.mem_of_getElem? (i := 117) (by decide +kernel)) rfl
theorem m_118 : Cond.methodLinkNest "IharaZeta" 30 ⟨"IharaZeta$EdgeText","<init>","()V"⟩ "IharaZeta" ∈ lw_tbl := List.mem_of_getElem? (i := 118) (by decide +kernel)
theorem m_119 : Cond.instanceMethod ⟨"IharaZeta$EdgeText","<init>","()V"⟩ ∈ tbG := tbG_in (List.mem_of_getElem? (i := 119) (by decide +kernel)) rfl
theorem m_120 : Cond.code ⟨"IharaZeta$EdgeText","<init>","()V"⟩ prog_3_method_1_code 1 (none : Option FieldType) ∈ tbG := tbG_in (List.mem_of_getElem? (i := 120) (by decide +kernel)) rfl
theorem m_121 : Cond.methodLink "IharaZeta$EdgeText" 3 ⟨"java/lang/Object","<init>","()V"⟩ ∈ tbG := tbG_in (List.mem_of_getElem? (i := 121) (by decide +kernel)) rfl
theorem m_122 : Cond.fieldLink "IharaZeta$EdgeText" 9 "IharaZeta$EdgeText" "length" "I" ∈ tbG := tbG_in (List.mem_of_getElem? (i := 122) (by decide +kernel)) rfl
theorem m_123 : Cond.fieldLinkNest "IharaZeta" 107 "IharaZeta$EdgeText" "length" "I" "IharaZeta" ∈ lw_tbl := List.mem_of_getElem? (i := 123) (by decide +kernel)
theorem m_124 : Cond.fieldLink "IharaZeta$EdgeText" 15 "IharaZeta$EdgeText" "characters" "[I" ∈ tbG := tbG_in (List.mem_of_getElem? (i := 124) (by decide +kernel)) rfl
theorem m_125 : Cond.fieldLink "IharaZeta$EdgeText" 19 "IharaZeta$EdgeText" "stage" "I" ∈ tbG := tbG_in (List.mem_of_getElem? (i := 125) (by decide +kernel)) rfl
theorem m_126 : Cond.fieldLink "IharaZeta$EdgeText" 48 "IharaZeta$EdgeText" "first" "I" ∈ tbG := tbG_in (List.mem_of_getElem? (i := 126) (by decide +kernel)) rfl
theorem m_127 : Cond.fieldLink "IharaZeta$EdgeText" 54 "IharaZeta$EdgeText" "second" "I" ∈ tbG := tbG_in (List.mem_of_getElem? (i := 127) (by decide +kernel)) rfl
theorem m_128 : Cond.fieldLink "IharaZeta$EdgeText" 51 "IharaZeta$EdgeText" "sign" "I" ∈ tbG := tbG_in (List.mem_of_getElem? (i := 128) (by decide +kernel)) rfl
theorem m_129 : Cond.lays "IharaZeta$EdgeText" "IharaZeta$EdgeText" "length" "I" ∈ tbG := tbG_in (List.mem_of_getElem? (i := 129) (by decide +kernel)) rfl
theorem m_131 : Cond.laysFinal "IharaZeta$EdgeText" "IharaZeta$EdgeText" "characters" "[I" ∈ tbG := tbG_in (List.mem_of_getElem? (i := 131) (by decide +kernel)) rfl
theorem m_133 : Cond.lays "IharaZeta$EdgeText" "IharaZeta$EdgeText" "stage" "I" ∈ tbG := tbG_in (List.mem_of_getElem? (i := 133) (by decide +kernel)) rfl
theorem m_135 : Cond.lays "IharaZeta$EdgeText" "IharaZeta$EdgeText" "first" "I" ∈ tbG := tbG_in (List.mem_of_getElem? (i := 135) (by decide +kernel)) rfl
theorem m_137 : Cond.lays "IharaZeta$EdgeText" "IharaZeta$EdgeText" "second" "I" ∈ tbG := tbG_in (List.mem_of_getElem? (i := 137) (by decide +kernel)) rfl
theorem m_139 : Cond.lays "IharaZeta$EdgeText" "IharaZeta$EdgeText" "sign" "I" ∈ tbG := tbG_in (List.mem_of_getElem? (i := 139) (by decide +kernel)) rfl
theorem m_142 : Cond.classLink "IharaZeta" 35 "IharaZeta$Grouping" ∈ tbG := tbG_in (List.mem_of_getElem? (i := 142) (by decide +kernel)) rfl
theorem m_143 : Cond.instantiable "IharaZeta$Grouping" 2 ∈ tbG := tbG_in (List.mem_of_getElem? (i := 143) (by decide +kernel)) rfl
theorem m_144 : Cond.methodLinkNest "IharaZeta" 37 ⟨"IharaZeta$Grouping","<init>","()V"⟩ "IharaZeta" ∈ lw_tbl := List.mem_of_getElem? (i := 144) (by decide +kernel)
theorem m_145 : Cond.instanceMethod ⟨"IharaZeta$Grouping","<init>","()V"⟩ ∈ tbG := tbG_in (List.mem_of_getElem? (i := 145) (by decide +kernel)) rfl
theorem m_146 : Cond.code ⟨"IharaZeta$Grouping","<init>","()V"⟩ prog_5_method_1_code 1 (none : Option FieldType) ∈ tbG := tbG_in (List.mem_of_getElem? (i := 146) (by decide +kernel)) rfl
theorem m_147 : Cond.methodLink "IharaZeta$Grouping" 3 ⟨"java/lang/Object","<init>","()V"⟩ ∈ tbG := tbG_in (List.mem_of_getElem? (i := 147) (by decide +kernel)) rfl
theorem m_148 : Cond.fieldLink "IharaZeta$Grouping" 9 "IharaZeta$Grouping" "groups" "[I" ∈ tbG := tbG_in (List.mem_of_getElem? (i := 148) (by decide +kernel)) rfl
theorem m_149 : Cond.fieldLink "IharaZeta$Grouping" 15 "IharaZeta$Grouping" "sides" "[I" ∈ tbG := tbG_in (List.mem_of_getElem? (i := 149) (by decide +kernel)) rfl
theorem m_150 : Cond.laysFinal "IharaZeta$Grouping" "IharaZeta$Grouping" "groups" "[I" ∈ tbG := tbG_in (List.mem_of_getElem? (i := 150) (by decide +kernel)) rfl
theorem m_152 : Cond.laysFinal "IharaZeta$Grouping" "IharaZeta$Grouping" "sides" "[I" ∈ tbG := tbG_in (List.mem_of_getElem? (i := 152) (by decide +kernel)) rfl
theorem m_155 : Cond.classLink "IharaZeta" 42 "IharaZeta$WalkCounter" ∈ tbG := tbG_in (List.mem_of_getElem? (i := 155) (by decide +kernel)) rfl
theorem m_156 : Cond.instantiable "IharaZeta$WalkCounter" 6 ∈ tbG := tbG_in (List.mem_of_getElem? (i := 156) (by decide +kernel)) rfl
theorem m_157 : Cond.methodLinkNest "IharaZeta" 44 ⟨"IharaZeta$WalkCounter","<init>","()V"⟩ "IharaZeta" ∈ lw_tbl := List.mem_of_getElem? (i := 157) (by decide +kernel)
theorem m_158 : Cond.instanceMethod ⟨"IharaZeta$WalkCounter","<init>","()V"⟩ ∈ tbG := tbG_in (List.mem_of_getElem? (i := 158) (by decide +kernel)) rfl
theorem m_159 : Cond.code ⟨"IharaZeta$WalkCounter","<init>","()V"⟩ prog_9_method_1_code 1 (none : Option FieldType) ∈ tbG := tbG_in (List.mem_of_getElem? (i := 159) (by decide +kernel)) rfl
theorem m_160 : Cond.methodLink "IharaZeta$WalkCounter" 3 ⟨"java/lang/Object","<init>","()V"⟩ ∈ tbG := tbG_in (List.mem_of_getElem? (i := 160) (by decide +kernel)) rfl
theorem m_161 : Cond.fieldLink "IharaZeta$WalkCounter" 9 "IharaZeta$WalkCounter" "closed" "[J" ∈ tbG := tbG_in (List.mem_of_getElem? (i := 161) (by decide +kernel)) rfl
theorem m_162 : Cond.fieldLinkNest "IharaZeta" 154 "IharaZeta$WalkCounter" "closed" "[J" "IharaZeta" ∈ lw_tbl := List.mem_of_getElem? (i := 162) (by decide +kernel)
theorem m_163 : Cond.fieldLink "IharaZeta$WalkCounter" 15 "IharaZeta$WalkCounter" "closedSigned" "[J" ∈ tbG := tbG_in (List.mem_of_getElem? (i := 163) (by decide +kernel)) rfl
theorem m_164 : Cond.fieldLinkNest "IharaZeta" 161 "IharaZeta$WalkCounter" "closedSigned" "[J" "IharaZeta" ∈ lw_tbl := List.mem_of_getElem? (i := 164) (by decide +kernel)
theorem m_165 : Cond.fieldLink "IharaZeta$WalkCounter" 18 "IharaZeta$WalkCounter" "primitive" "[J" ∈ tbG := tbG_in (List.mem_of_getElem? (i := 165) (by decide +kernel)) rfl
theorem m_166 : Cond.fieldLinkNest "IharaZeta" 167 "IharaZeta$WalkCounter" "primitive" "[J" "IharaZeta" ∈ lw_tbl := List.mem_of_getElem? (i := 166) (by decide +kernel)
theorem m_167 : Cond.fieldLink "IharaZeta$WalkCounter" 21 "IharaZeta$WalkCounter" "primitiveSigned" "[J" ∈ tbG := tbG_in (List.mem_of_getElem? (i := 167) (by decide +kernel)) rfl
theorem m_168 : Cond.fieldLinkNest "IharaZeta" 173 "IharaZeta$WalkCounter" "primitiveSigned" "[J" "IharaZeta" ∈ lw_tbl := List.mem_of_getElem? (i := 168) (by decide +kernel)
theorem m_169 : Cond.fieldLink "IharaZeta$WalkCounter" 24 "IharaZeta$WalkCounter" "reached" "[J" ∈ tbG := tbG_in (List.mem_of_getElem? (i := 169) (by decide +kernel)) rfl
theorem m_170 : Cond.fieldLink "IharaZeta$WalkCounter" 27 "IharaZeta$WalkCounter" "arrived" "[J" ∈ tbG := tbG_in (List.mem_of_getElem? (i := 170) (by decide +kernel)) rfl
theorem m_171 : Cond.laysFinal "IharaZeta$WalkCounter" "IharaZeta$WalkCounter" "closed" "[J" ∈ tbG := tbG_in (List.mem_of_getElem? (i := 171) (by decide +kernel)) rfl
theorem m_173 : Cond.laysFinal "IharaZeta$WalkCounter" "IharaZeta$WalkCounter" "closedSigned" "[J" ∈ tbG := tbG_in (List.mem_of_getElem? (i := 173) (by decide +kernel)) rfl
theorem m_175 : Cond.laysFinal "IharaZeta$WalkCounter" "IharaZeta$WalkCounter" "primitive" "[J" ∈ tbG := tbG_in (List.mem_of_getElem? (i := 175) (by decide +kernel)) rfl
theorem m_177 : Cond.laysFinal "IharaZeta$WalkCounter" "IharaZeta$WalkCounter" "primitiveSigned" "[J" ∈ tbG := tbG_in (List.mem_of_getElem? (i := 177) (by decide +kernel)) rfl
theorem m_179 : Cond.laysFinal "IharaZeta$WalkCounter" "IharaZeta$WalkCounter" "reached" "[J" ∈ tbG := tbG_in (List.mem_of_getElem? (i := 179) (by decide +kernel)) rfl
theorem m_181 : Cond.laysFinal "IharaZeta$WalkCounter" "IharaZeta$WalkCounter" "arrived" "[J" ∈ tbG := tbG_in (List.mem_of_getElem? (i := 181) (by decide +kernel)) rfl
theorem m_184 : Cond.arrayClass FieldType.long ∈ tbG := tbG_in (List.mem_of_getElem? (i := 184) (by decide +kernel)) rfl
theorem m_185 : Cond.classLink "IharaZeta" 49 "IharaZeta$PrimeSearch" ∈ tbG := tbG_in (List.mem_of_getElem? (i := 185) (by decide +kernel)) rfl
theorem m_186 : Cond.instantiable "IharaZeta$PrimeSearch" 2 ∈ tbG := tbG_in (List.mem_of_getElem? (i := 186) (by decide +kernel)) rfl
theorem m_187 : Cond.methodLinkNest "IharaZeta" 51 ⟨"IharaZeta$PrimeSearch","<init>","()V"⟩ "IharaZeta" ∈ lw_tbl := List.mem_of_getElem? (i := 187) (by decide +kernel)
theorem m_188 : Cond.instanceMethod ⟨"IharaZeta$PrimeSearch","<init>","()V"⟩ ∈ tbG := tbG_in (List.mem_of_getElem? (i := 188) (by decide +kernel)) rfl
theorem m_189 : Cond.code ⟨"IharaZeta$PrimeSearch","<init>","()V"⟩ prog_7_method_1_code 1 (none : Option FieldType) ∈ tbG := tbG_in (List.mem_of_getElem? (i := 189) (by decide +kernel)) rfl
theorem m_190 : Cond.methodLink "IharaZeta$PrimeSearch" 3 ⟨"java/lang/Object","<init>","()V"⟩ ∈ tbG := tbG_in (List.mem_of_getElem? (i := 190) (by decide +kernel)) rfl
theorem m_191 : Cond.fieldLink "IharaZeta$PrimeSearch" 9 "IharaZeta$PrimeSearch" "word" "[I" ∈ tbG := tbG_in (List.mem_of_getElem? (i := 191) (by decide +kernel)) rfl
theorem m_192 : Cond.fieldLinkNest "IharaZeta" 189 "IharaZeta$PrimeSearch" "word" "[I" "IharaZeta" ∈ lw_tbl := List.mem_of_getElem? (i := 192) (by decide +kernel)
theorem m_193 : Cond.fieldLink "IharaZeta$PrimeSearch" 15 "IharaZeta$PrimeSearch" "toSkip" "I" ∈ tbG := tbG_in (List.mem_of_getElem? (i := 193) (by decide +kernel)) rfl
theorem m_194 : Cond.laysFinal "IharaZeta$PrimeSearch" "IharaZeta$PrimeSearch" "word" "[I" ∈ tbG := tbG_in (List.mem_of_getElem? (i := 194) (by decide +kernel)) rfl
theorem m_196 : Cond.lays "IharaZeta$PrimeSearch" "IharaZeta$PrimeSearch" "toSkip" "I" ∈ tbG := tbG_in (List.mem_of_getElem? (i := 196) (by decide +kernel)) rfl
theorem m_199 : Cond.classLink "IharaZeta" 56 "IharaZeta$EdgePolynomial" ∈ tbG := tbG_in (List.mem_of_getElem? (i := 199) (by decide +kernel)) rfl
theorem m_200 : Cond.instantiable "IharaZeta$EdgePolynomial" 2 ∈ tbG := tbG_in (List.mem_of_getElem? (i := 200) (by decide +kernel)) rfl
theorem m_201 : Cond.methodLinkNest "IharaZeta" 58 ⟨"IharaZeta$EdgePolynomial","<init>","()V"⟩ "IharaZeta" ∈ lw_tbl := List.mem_of_getElem? (i := 201) (by decide +kernel)
theorem m_202 : Cond.instanceMethod ⟨"IharaZeta$EdgePolynomial","<init>","()V"⟩ ∈ tbG := tbG_in (List.mem_of_getElem? (i := 202) (by decide +kernel)) rfl
theorem m_203 : Cond.code ⟨"IharaZeta$EdgePolynomial","<init>","()V"⟩ prog_2_method_1_code 1 (none : Option FieldType) ∈ tbG := tbG_in (List.mem_of_getElem? (i := 203) (by decide +kernel)) rfl
theorem m_204 : Cond.methodLink "IharaZeta$EdgePolynomial" 3 ⟨"java/lang/Object","<init>","()V"⟩ ∈ tbG := tbG_in (List.mem_of_getElem? (i := 204) (by decide +kernel)) rfl
theorem m_205 : Cond.fieldLink "IharaZeta$EdgePolynomial" 9 "IharaZeta$EdgePolynomial" "coefficients" "[J" ∈ tbG := tbG_in (List.mem_of_getElem? (i := 205) (by decide +kernel)) rfl
theorem m_206 : Cond.fieldLinkNest "IharaZeta" 202 "IharaZeta$EdgePolynomial" "coefficients" "[J" "IharaZeta" ∈ lw_tbl := List.mem_of_getElem? (i := 206) (by decide +kernel)
theorem m_207 : Cond.fieldLink "IharaZeta$EdgePolynomial" 15 "IharaZeta$EdgePolynomial" "work" "[J" ∈ tbG := tbG_in (List.mem_of_getElem? (i := 207) (by decide +kernel)) rfl
theorem m_208 : Cond.laysFinal "IharaZeta$EdgePolynomial" "IharaZeta$EdgePolynomial" "coefficients" "[J" ∈ tbG := tbG_in (List.mem_of_getElem? (i := 208) (by decide +kernel)) rfl
theorem m_210 : Cond.laysFinal "IharaZeta$EdgePolynomial" "IharaZeta$EdgePolynomial" "work" "[J" ∈ tbG := tbG_in (List.mem_of_getElem? (i := 210) (by decide +kernel)) rfl
theorem m_213 : Cond.classLink "IharaZeta" 63 "IharaZeta$VertexPolynomial" ∈ tbG := tbG_in (List.mem_of_getElem? (i := 213) (by decide +kernel)) rfl
theorem m_214 : Cond.instantiable "IharaZeta$VertexPolynomial" 2 ∈ tbG := tbG_in (List.mem_of_getElem? (i := 214) (by decide +kernel)) rfl
theorem m_215 : Cond.methodLinkNest "IharaZeta" 65 ⟨"IharaZeta$VertexPolynomial","<init>","()V"⟩ "IharaZeta" ∈ lw_tbl := List.mem_of_getElem? (i := 215) (by decide +kernel)
theorem m_216 : Cond.instanceMethod ⟨"IharaZeta$VertexPolynomial","<init>","()V"⟩ ∈ tbG := tbG_in (List.mem_of_getElem? (i := 216) (by decide +kernel)) rfl
theorem m_217 : Cond.code ⟨"IharaZeta$VertexPolynomial","<init>","()V"⟩ prog_8_method_1_code 1 (none : Option FieldType) ∈ tbG := tbG_in (List.mem_of_getElem? (i := 217) (by decide +kernel)) rfl
theorem m_218 : Cond.methodLink "IharaZeta$VertexPolynomial" 3 ⟨"java/lang/Object","<init>","()V"⟩ ∈ tbG := tbG_in (List.mem_of_getElem? (i := 218) (by decide +kernel)) rfl
theorem m_219 : Cond.classLink "IharaZeta$VertexPolynomial" 15 "[[J" ∈ tbG := tbG_in (List.mem_of_getElem? (i := 219) (by decide +kernel)) rfl
theorem m_220 : Cond.arrayOver (FieldType.array FieldType.long) ∈ lw_tbl := List.mem_of_getElem? (i := 220) (by decide +kernel)
theorem m_221 : Cond.fieldLink "IharaZeta$VertexPolynomial" 9 "IharaZeta$VertexPolynomial" "coefficients" "[J" ∈ tbG := tbG_in (List.mem_of_getElem? (i := 221) (by decide +kernel)) rfl
theorem m_222 : Cond.fieldLinkNest "IharaZeta" 211 "IharaZeta$VertexPolynomial" "coefficients" "[J" "IharaZeta" ∈ lw_tbl := List.mem_of_getElem? (i := 222) (by decide +kernel)
theorem m_223 : Cond.fieldLink "IharaZeta$VertexPolynomial" 17 "IharaZeta$VertexPolynomial" "minors" "[[J" ∈ tbG := tbG_in (List.mem_of_getElem? (i := 223) (by decide +kernel)) rfl
theorem m_224 : Cond.laysFinal "IharaZeta$VertexPolynomial" "IharaZeta$VertexPolynomial" "coefficients" "[J" ∈ tbG := tbG_in (List.mem_of_getElem? (i := 224) (by decide +kernel)) rfl
theorem m_226 : Cond.laysFinal "IharaZeta$VertexPolynomial" "IharaZeta$VertexPolynomial" "minors" "[[J" ∈ tbG := tbG_in (List.mem_of_getElem? (i := 226) (by decide +kernel)) rfl
theorem m_229 : Cond.fieldLink "IharaZeta" 12 "IharaZeta" "graph" "LIharaZeta$Graph;" ∈ tbG := tbG_in (List.mem_of_getElem? (i := 229) (by decide +kernel)) rfl
theorem m_230 : Cond.fieldLink "IharaZeta" 18 "IharaZeta" "draft" "LIharaZeta$Graph;" ∈ tbG := tbG_in (List.mem_of_getElem? (i := 230) (by decide +kernel)) rfl
theorem m_231 : Cond.fieldLink "IharaZeta" 24 "IharaZeta" "history" "LIharaZeta$History;" ∈ tbG := tbG_in (List.mem_of_getElem? (i := 231) (by decide +kernel)) rfl
theorem m_232 : Cond.fieldLink "IharaZeta" 31 "IharaZeta" "text" "LIharaZeta$EdgeText;" ∈ tbG := tbG_in (List.mem_of_getElem? (i := 232) (by decide +kernel)) rfl
theorem m_233 : Cond.fieldLink "IharaZeta" 38 "IharaZeta" "grouping" "LIharaZeta$Grouping;" ∈ tbG := tbG_in (List.mem_of_getElem? (i := 233) (by decide +kernel)) rfl
theorem m_234 : Cond.fieldLink "IharaZeta" 45 "IharaZeta" "counter" "LIharaZeta$WalkCounter;" ∈ tbG := tbG_in (List.mem_of_getElem? (i := 234) (by decide +kernel)) rfl
theorem m_235 : Cond.fieldLink "IharaZeta" 52 "IharaZeta" "search" "LIharaZeta$PrimeSearch;" ∈ tbG := tbG_in (List.mem_of_getElem? (i := 235) (by decide +kernel)) rfl
theorem m_236 : Cond.fieldLink "IharaZeta" 59 "IharaZeta" "edgePolynomial" "LIharaZeta$EdgePolynomial;" ∈ tbG := tbG_in (List.mem_of_getElem? (i := 236) (by decide +kernel)) rfl
theorem m_237 : Cond.fieldLink "IharaZeta" 66 "IharaZeta" "vertexPolynomial" "LIharaZeta$VertexPolynomial;" ∈ tbG := tbG_in (List.mem_of_getElem? (i := 237) (by decide +kernel)) rfl
theorem m_238 : Cond.laysFinal "IharaZeta" "IharaZeta" "graph" "LIharaZeta$Graph;" ∈ tbG := tbG_in (List.mem_of_getElem? (i := 238) (by decide +kernel)) rfl
theorem m_240 : Cond.laysFinal "IharaZeta" "IharaZeta" "draft" "LIharaZeta$Graph;" ∈ tbG := tbG_in (List.mem_of_getElem? (i := 240) (by decide +kernel)) rfl
theorem m_242 : Cond.laysFinal "IharaZeta" "IharaZeta" "history" "LIharaZeta$History;" ∈ tbG := tbG_in (List.mem_of_getElem? (i := 242) (by decide +kernel)) rfl
theorem m_244 : Cond.laysFinal "IharaZeta" "IharaZeta" "text" "LIharaZeta$EdgeText;" ∈ tbG := tbG_in (List.mem_of_getElem? (i := 244) (by decide +kernel)) rfl
theorem m_246 : Cond.laysFinal "IharaZeta" "IharaZeta" "grouping" "LIharaZeta$Grouping;" ∈ tbG := tbG_in (List.mem_of_getElem? (i := 246) (by decide +kernel)) rfl
theorem m_248 : Cond.laysFinal "IharaZeta" "IharaZeta" "counter" "LIharaZeta$WalkCounter;" ∈ tbG := tbG_in (List.mem_of_getElem? (i := 248) (by decide +kernel)) rfl
theorem m_250 : Cond.laysFinal "IharaZeta" "IharaZeta" "search" "LIharaZeta$PrimeSearch;" ∈ tbG := tbG_in (List.mem_of_getElem? (i := 250) (by decide +kernel)) rfl
theorem m_252 : Cond.laysFinal "IharaZeta" "IharaZeta" "edgePolynomial" "LIharaZeta$EdgePolynomial;" ∈ tbG := tbG_in (List.mem_of_getElem? (i := 252) (by decide +kernel)) rfl
theorem m_254 : Cond.laysFinal "IharaZeta" "IharaZeta" "vertexPolynomial" "LIharaZeta$VertexPolynomial;" ∈ tbG := tbG_in (List.mem_of_getElem? (i := 254) (by decide +kernel)) rfl
theorem m_257 : Cond.methodLink "IharaZetaLaw" 13 ⟨"IharaZeta","configure","(I)I"⟩ ∈ tbG := tbG_in (List.mem_of_getElem? (i := 257) (by decide +kernel)) rfl
theorem m_258 : Cond.instanceMethod ⟨"IharaZeta","configure","(I)I"⟩ ∈ tbG := tbG_in (List.mem_of_getElem? (i := 258) (by decide +kernel)) rfl
theorem m_259 : Cond.selects "IharaZeta" ⟨"IharaZeta","configure","(I)I"⟩ ⟨"IharaZeta","configure","(I)I"⟩ ∈ tbG := tbG_in (List.mem_of_getElem? (i := 259) (by decide +kernel)) rfl
theorem m_260 : Cond.code ⟨"IharaZeta","configure","(I)I"⟩ prog_1_method_2_code 3 (some FieldType.int) ∈ tbG := tbG_in (List.mem_of_getElem? (i := 260) (by decide +kernel)) rfl
theorem m_261 : Cond.methodLink "IharaZeta" 74 ⟨"IharaZeta$History","save","(LIharaZeta$Graph;)V"⟩ ∈ tbG := tbG_in (List.mem_of_getElem? (i := 261) (by decide +kernel)) rfl
theorem m_262 : Cond.instanceMethod ⟨"IharaZeta$History","save","(LIharaZeta$Graph;)V"⟩ ∈ tbG := tbG_in (List.mem_of_getElem? (i := 262) (by decide +kernel)) rfl
theorem m_263 : Cond.selects "IharaZeta$History" ⟨"IharaZeta$History","save","(LIharaZeta$Graph;)V"⟩ ⟨"IharaZeta$History","save","(LIharaZeta$Graph;)V"⟩ ∈ tbG := tbG_in (List.mem_of_getElem? (i := 263) (by decide +kernel)) rfl
theorem m_264 : Cond.code ⟨"IharaZeta$History","save","(LIharaZeta$Graph;)V"⟩ prog_6_method_2_code 2 (none : Option FieldType) ∈ tbG := tbG_in (List.mem_of_getElem? (i := 264) (by decide +kernel)) rfl
theorem m_265 : Cond.methodLink "IharaZeta$History" 22 ⟨"IharaZeta$History","discardOldest","()V"⟩ ∈ tbG := tbG_in (List.mem_of_getElem? (i := 265) (by decide +kernel)) rfl
theorem m_267 : Cond.instanceMethod ⟨"IharaZeta$History","discardOldest","()V"⟩ ∈ tbG := tbG_in (List.mem_of_getElem? (i := 267) (by decide +kernel)) rfl
theorem m_268 : Cond.code ⟨"IharaZeta$History","discardOldest","()V"⟩ prog_6_method_4_code 3 (none : Option FieldType) ∈ tbG := tbG_in (List.mem_of_getElem? (i := 268) (by decide +kernel)) rfl
theorem m_269 : Cond.methodLink "IharaZeta$History" 25 ⟨"IharaZeta$Graph","copyFrom","(LIharaZeta$Graph;)V"⟩ ∈ tbG := tbG_in (List.mem_of_getElem? (i := 269) (by decide +kernel)) rfl
theorem m_270 : Cond.instanceMethod ⟨"IharaZeta$Graph","copyFrom","(LIharaZeta$Graph;)V"⟩ ∈ tbG := tbG_in (List.mem_of_getElem? (i := 270) (by decide +kernel)) rfl
theorem m_271 : Cond.selects "IharaZeta$Graph" ⟨"IharaZeta$Graph","copyFrom","(LIharaZeta$Graph;)V"⟩ ⟨"IharaZeta$Graph","copyFrom","(LIharaZeta$Graph;)V"⟩ ∈ tbG := tbG_in (List.mem_of_getElem? (i := 271) (by decide +kernel)) rfl
theorem m_272 : Cond.code ⟨"IharaZeta$Graph","copyFrom","(LIharaZeta$Graph;)V"⟩ prog_4_method_3_code 3 (none : Option FieldType) ∈ tbG := tbG_in (List.mem_of_getElem? (i := 272) (by decide +kernel)) rfl
theorem m_273 : Cond.methodLink "IharaZeta" 78 ⟨"IharaZeta$Graph","makeEmpty","(I)V"⟩ ∈ tbG := tbG_in (List.mem_of_getElem? (i := 273) (by decide +kernel)) rfl
theorem m_274 : Cond.instanceMethod ⟨"IharaZeta$Graph","makeEmpty","(I)V"⟩ ∈ tbG := tbG_in (List.mem_of_getElem? (i := 274) (by decide +kernel)) rfl
theorem m_275 : Cond.selects "IharaZeta$Graph" ⟨"IharaZeta$Graph","makeEmpty","(I)V"⟩ ⟨"IharaZeta$Graph","makeEmpty","(I)V"⟩ ∈ tbG := tbG_in (List.mem_of_getElem? (i := 275) (by decide +kernel)) rfl
theorem m_276 : Cond.code ⟨"IharaZeta$Graph","makeEmpty","(I)V"⟩ prog_4_method_2_code 2 (none : Option FieldType) ∈ tbG := tbG_in (List.mem_of_getElem? (i := 276) (by decide +kernel)) rfl
theorem m_277 : Cond.methodLink "IharaZetaLaw" 18 ⟨"IharaZeta","addEdge","(III)I"⟩ ∈ tbG := tbG_in (List.mem_of_getElem? (i := 277) (by decide +kernel)) rfl
theorem m_278 : Cond.instanceMethod ⟨"IharaZeta","addEdge","(III)I"⟩ ∈ tbG := tbG_in (List.mem_of_getElem? (i := 278) (by decide +kernel)) rfl
theorem m_279 : Cond.selects "IharaZeta" ⟨"IharaZeta","addEdge","(III)I"⟩ ⟨"IharaZeta","addEdge","(III)I"⟩ ∈ tbG := tbG_in (List.mem_of_getElem? (i := 279) (by decide +kernel)) rfl
theorem m_280 : Cond.code ⟨"IharaZeta","addEdge","(III)I"⟩ prog_1_method_3_code 4 (some FieldType.int) ∈ tbG := tbG_in (List.mem_of_getElem? (i := 280) (by decide +kernel)) rfl
theorem m_281 : Cond.methodLink "IharaZeta" 82 ⟨"IharaZeta$Graph","hasVertex","(I)Z"⟩ ∈ tbG := tbG_in (List.mem_of_getElem? (i := 281) (by decide +kernel)) rfl
theorem m_282 : Cond.instanceMethod ⟨"IharaZeta$Graph","hasVertex","(I)Z"⟩ ∈ tbG := tbG_in (List.mem_of_getElem? (i := 282) (by decide +kernel)) rfl
theorem m_283 : Cond.selects "IharaZeta$Graph" ⟨"IharaZeta$Graph","hasVertex","(I)Z"⟩ ⟨"IharaZeta$Graph","hasVertex","(I)Z"⟩ ∈ tbG := tbG_in (List.mem_of_getElem? (i := 283) (by decide +kernel)) rfl
theorem m_284 : Cond.code ⟨"IharaZeta$Graph","hasVertex","(I)Z"⟩ prog_4_method_5_code 2 (some FieldType.boolean) ∈ tbG := tbG_in (List.mem_of_getElem? (i := 284) (by decide +kernel)) rfl
theorem m_285 : Cond.methodLink "IharaZeta" 86 ⟨"IharaZeta$Graph","isFull","()Z"⟩ ∈ tbG := tbG_in (List.mem_of_getElem? (i := 285) (by decide +kernel)) rfl
theorem m_286 : Cond.instanceMethod ⟨"IharaZeta$Graph","isFull","()Z"⟩ ∈ tbG := tbG_in (List.mem_of_getElem? (i := 286) (by decide +kernel)) rfl
theorem m_287 : Cond.selects "IharaZeta$Graph" ⟨"IharaZeta$Graph","isFull","()Z"⟩ ⟨"IharaZeta$Graph","isFull","()Z"⟩ ∈ tbG := tbG_in (List.mem_of_getElem? (i := 287) (by decide +kernel)) rfl
theorem m_288 : Cond.code ⟨"IharaZeta$Graph","isFull","()Z"⟩ prog_4_method_4_code 1 (some FieldType.boolean) ∈ tbG := tbG_in (List.mem_of_getElem? (i := 288) (by decide +kernel)) rfl
theorem m_289 : Cond.methodLink "IharaZeta" 90 ⟨"IharaZeta$Graph","append","(III)V"⟩ ∈ tbG := tbG_in (List.mem_of_getElem? (i := 289) (by decide +kernel)) rfl
theorem m_290 : Cond.instanceMethod ⟨"IharaZeta$Graph","append","(III)V"⟩ ∈ tbG := tbG_in (List.mem_of_getElem? (i := 290) (by decide +kernel)) rfl
theorem m_291 : Cond.selects "IharaZeta$Graph" ⟨"IharaZeta$Graph","append","(III)V"⟩ ⟨"IharaZeta$Graph","append","(III)V"⟩ ∈ tbG := tbG_in (List.mem_of_getElem? (i := 291) (by decide +kernel)) rfl
theorem m_292 : Cond.code ⟨"IharaZeta$Graph","append","(III)V"⟩ prog_4_method_8_code 4 (none : Option FieldType) ∈ tbG := tbG_in (List.mem_of_getElem? (i := 292) (by decide +kernel)) rfl
theorem m_293 : Cond.methodLink "IharaZeta$Graph" 28 ⟨"IharaZeta$Graph","isFull","()Z"⟩ ∈ tbG := tbG_in (List.mem_of_getElem? (i := 293) (by decide +kernel)) rfl
theorem m_294 : Cond.methodLink "IharaZetaLaw" 23 ⟨"IharaZeta","removeEdge","(I)I"⟩ ∈ tbG := tbG_in (List.mem_of_getElem? (i := 294) (by decide +kernel)) rfl
theorem m_295 : Cond.instanceMethod ⟨"IharaZeta","removeEdge","(I)I"⟩ ∈ tbG := tbG_in (List.mem_of_getElem? (i := 295) (by decide +kernel)) rfl
theorem m_296 : Cond.selects "IharaZeta" ⟨"IharaZeta","removeEdge","(I)I"⟩ ⟨"IharaZeta","removeEdge","(I)I"⟩ ∈ tbG := tbG_in (List.mem_of_getElem? (i := 296) (by decide +kernel)) rfl
theorem m_297 : Cond.code ⟨"IharaZeta","removeEdge","(I)I"⟩ prog_1_method_4_code 2 (some FieldType.int) ∈ tbG := tbG_in (List.mem_of_getElem? (i := 297) (by decide +kernel)) rfl
theorem m_298 : Cond.methodLink "IharaZeta" 97 ⟨"IharaZeta$Graph","hasEdge","(I)Z"⟩ ∈ tbG := tbG_in (List.mem_of_getElem? (i := 298) (by decide +kernel)) rfl
theorem m_299 : Cond.instanceMethod ⟨"IharaZeta$Graph","hasEdge","(I)Z"⟩ ∈ tbG := tbG_in (List.mem_of_getElem? (i := 299) (by decide +kernel)) rfl
theorem m_300 : Cond.selects "IharaZeta$Graph" ⟨"IharaZeta$Graph","hasEdge","(I)Z"⟩ ⟨"IharaZeta$Graph","hasEdge","(I)Z"⟩ ∈ tbG := tbG_in (List.mem_of_getElem? (i := 300) (by decide +kernel)) rfl
theorem m_301 : Cond.code ⟨"IharaZeta$Graph","hasEdge","(I)Z"⟩ prog_4_method_6_code 2 (some FieldType.boolean) ∈ tbG := tbG_in (List.mem_of_getElem? (i := 301) (by decide +kernel)) rfl
theorem m_302 : Cond.methodLink "IharaZeta" 100 ⟨"IharaZeta$Graph","delete","(I)V"⟩ ∈ tbG := tbG_in (List.mem_of_getElem? (i := 302) (by decide +kernel)) rfl
theorem m_303 : Cond.instanceMethod ⟨"IharaZeta$Graph","delete","(I)V"⟩ ∈ tbG := tbG_in (List.mem_of_getElem? (i := 303) (by decide +kernel)) rfl
theorem m_304 : Cond.selects "IharaZeta$Graph" ⟨"IharaZeta$Graph","delete","(I)V"⟩ ⟨"IharaZeta$Graph","delete","(I)V"⟩ ∈ tbG := tbG_in (List.mem_of_getElem? (i := 304) (by decide +kernel)) rfl
theorem m_305 : Cond.code ⟨"IharaZeta$Graph","delete","(I)V"⟩ prog_4_method_9_code 3 (none : Option FieldType) ∈ tbG := tbG_in (List.mem_of_getElem? (i := 305) (by decide +kernel)) rfl
theorem m_306 : Cond.methodLink "IharaZetaLaw" 27 ⟨"IharaZeta","flipSign","(I)I"⟩ ∈ tbG := tbG_in (List.mem_of_getElem? (i := 306) (by decide +kernel)) rfl
theorem m_307 : Cond.instanceMethod ⟨"IharaZeta","flipSign","(I)I"⟩ ∈ tbG := tbG_in (List.mem_of_getElem? (i := 307) (by decide +kernel)) rfl
theorem m_308 : Cond.selects "IharaZeta" ⟨"IharaZeta","flipSign","(I)I"⟩ ⟨"IharaZeta","flipSign","(I)I"⟩ ∈ tbG := tbG_in (List.mem_of_getElem? (i := 308) (by decide +kernel)) rfl
theorem m_309 : Cond.code ⟨"IharaZeta","flipSign","(I)I"⟩ prog_1_method_5_code 2 (some FieldType.int) ∈ tbG := tbG_in (List.mem_of_getElem? (i := 309) (by decide +kernel)) rfl
theorem m_310 : Cond.methodLink "IharaZetaLaw" 31 ⟨"IharaZeta","appendCharacter","(I)I"⟩ ∈ tbG := tbG_in (List.mem_of_getElem? (i := 310) (by decide +kernel)) rfl
theorem m_311 : Cond.instanceMethod ⟨"IharaZeta","appendCharacter","(I)I"⟩ ∈ tbG := tbG_in (List.mem_of_getElem? (i := 311) (by decide +kernel)) rfl
theorem m_312 : Cond.selects "IharaZeta" ⟨"IharaZeta","appendCharacter","(I)I"⟩ ⟨"IharaZeta","appendCharacter","(I)I"⟩ ∈ tbG := tbG_in (List.mem_of_getElem? (i := 312) (by decide +kernel)) rfl
theorem m_313 : Cond.code ⟨"IharaZeta","appendCharacter","(I)I"⟩ prog_1_method_6_code 2 (some FieldType.int) ∈ tbG := tbG_in (List.mem_of_getElem? (i := 313) (by decide +kernel)) rfl
theorem m_314 : Cond.methodLink "IharaZeta" 110 ⟨"IharaZeta$EdgeText","append","(I)V"⟩ ∈ tbG := tbG_in (List.mem_of_getElem? (i := 314) (by decide +kernel)) rfl
theorem m_315 : Cond.instanceMethod ⟨"IharaZeta$EdgeText","append","(I)V"⟩ ∈ tbG := tbG_in (List.mem_of_getElem? (i := 315) (by decide +kernel)) rfl
theorem m_316 : Cond.selects "IharaZeta$EdgeText" ⟨"IharaZeta$EdgeText","append","(I)V"⟩ ⟨"IharaZeta$EdgeText","append","(I)V"⟩ ∈ tbG := tbG_in (List.mem_of_getElem? (i := 316) (by decide +kernel)) rfl
theorem m_317 : Cond.code ⟨"IharaZeta$EdgeText","append","(I)V"⟩ prog_3_method_2_code 2 (none : Option FieldType) ∈ tbG := tbG_in (List.mem_of_getElem? (i := 317) (by decide +kernel)) rfl
theorem m_318 : Cond.methodLink "IharaZetaLaw" 35 ⟨"IharaZeta","clearText","()I"⟩ ∈ tbG := tbG_in (List.mem_of_getElem? (i := 318) (by decide +kernel)) rfl
theorem m_319 : Cond.instanceMethod ⟨"IharaZeta","clearText","()I"⟩ ∈ tbG := tbG_in (List.mem_of_getElem? (i := 319) (by decide +kernel)) rfl
theorem m_320 : Cond.selects "IharaZeta" ⟨"IharaZeta","clearText","()I"⟩ ⟨"IharaZeta","clearText","()I"⟩ ∈ tbG := tbG_in (List.mem_of_getElem? (i := 320) (by decide +kernel)) rfl
theorem m_321 : Cond.code ⟨"IharaZeta","clearText","()I"⟩ prog_1_method_7_code 2 (some FieldType.int) ∈ tbG := tbG_in (List.mem_of_getElem? (i := 321) (by decide +kernel)) rfl
theorem m_322 : Cond.methodLink "IharaZetaLaw" 40 ⟨"IharaZeta","loadGraph","()I"⟩ ∈ tbG := tbG_in (List.mem_of_getElem? (i := 322) (by decide +kernel)) rfl
theorem m_323 : Cond.instanceMethod ⟨"IharaZeta","loadGraph","()I"⟩ ∈ tbG := tbG_in (List.mem_of_getElem? (i := 323) (by decide +kernel)) rfl
theorem m_324 : Cond.selects "IharaZeta" ⟨"IharaZeta","loadGraph","()I"⟩ ⟨"IharaZeta","loadGraph","()I"⟩ ∈ tbG := tbG_in (List.mem_of_getElem? (i := 324) (by decide +kernel)) rfl
theorem m_325 : Cond.code ⟨"IharaZeta","loadGraph","()I"⟩ prog_1_method_8_code 2 (some FieldType.int) ∈ tbG := tbG_in (List.mem_of_getElem? (i := 325) (by decide +kernel)) rfl
theorem m_326 : Cond.methodLink "IharaZeta" 112 ⟨"IharaZeta$EdgeText","readInto","(LIharaZeta$Graph;)I"⟩ ∈ tbG := tbG_in (List.mem_of_getElem? (i := 326) (by decide +kernel)) rfl
theorem m_327 : Cond.instanceMethod ⟨"IharaZeta$EdgeText","readInto","(LIharaZeta$Graph;)I"⟩ ∈ tbG := tbG_in (List.mem_of_getElem? (i := 327) (by decide +kernel)) rfl
theorem m_328 : Cond.selects "IharaZeta$EdgeText" ⟨"IharaZeta$EdgeText","readInto","(LIharaZeta$Graph;)I"⟩ ⟨"IharaZeta$EdgeText","readInto","(LIharaZeta$Graph;)I"⟩ ∈ tbG := tbG_in (List.mem_of_getElem? (i := 328) (by decide +kernel)) rfl
theorem m_329 : Cond.code ⟨"IharaZeta$EdgeText","readInto","(LIharaZeta$Graph;)I"⟩ prog_3_method_3_code 4 (some FieldType.int) ∈ tbG := tbG_in (List.mem_of_getElem? (i := 329) (by decide +kernel)) rfl
theorem m_330 : Cond.methodLink "IharaZeta$EdgeText" 22 ⟨"IharaZeta$EdgeText","accept","(ILIharaZeta$Graph;)Z"⟩ ∈ tbG := tbG_in (List.mem_of_getElem? (i := 330) (by decide +kernel)) rfl
theorem m_332 : Cond.instanceMethod ⟨"IharaZeta$EdgeText","accept","(ILIharaZeta$Graph;)Z"⟩ ∈ tbG := tbG_in (List.mem_of_getElem? (i := 332) (by decide +kernel)) rfl
theorem m_333 : Cond.code ⟨"IharaZeta$EdgeText","accept","(ILIharaZeta$Graph;)Z"⟩ prog_3_method_4_code 3 (some FieldType.boolean) ∈ tbG := tbG_in (List.mem_of_getElem? (i := 333) (by decide +kernel)) rfl
theorem m_334 : Cond.methodLink "IharaZeta$EdgeText" 26 ⟨"IharaZeta$EdgeText","acceptFirst","(ILIharaZeta$Graph;)Z"⟩ ∈ tbG := tbG_in (List.mem_of_getElem? (i := 334) (by decide +kernel)) rfl
theorem m_336 : Cond.instanceMethod ⟨"IharaZeta$EdgeText","acceptFirst","(ILIharaZeta$Graph;)Z"⟩ ∈ tbG := tbG_in (List.mem_of_getElem? (i := 336) (by decide +kernel)) rfl
theorem m_337 : Cond.code ⟨"IharaZeta$EdgeText","acceptFirst","(ILIharaZeta$Graph;)Z"⟩ prog_3_method_5_code 3 (some FieldType.boolean) ∈ tbG := tbG_in (List.mem_of_getElem? (i := 337) (by decide +kernel)) rfl
theorem m_338 : Cond.methodLink "IharaZeta$EdgeText" 39 ⟨"IharaZeta$Graph","isFull","()Z"⟩ ∈ tbG := tbG_in (List.mem_of_getElem? (i := 338) (by decide +kernel)) rfl
theorem m_339 : Cond.methodLink "IharaZeta$EdgeText" 45 ⟨"IharaZeta$Graph","hasVertex","(I)Z"⟩ ∈ tbG := tbG_in (List.mem_of_getElem? (i := 339) (by decide +kernel)) rfl
theorem m_340 : Cond.methodLink "IharaZeta$EdgeText" 29 ⟨"IharaZeta$EdgeText","acceptSign","(I)Z"⟩ ∈ tbG := tbG_in (List.mem_of_getElem? (i := 340) (by decide +kernel)) rfl
theorem m_342 : Cond.instanceMethod ⟨"IharaZeta$EdgeText","acceptSign","(I)Z"⟩ ∈ tbG := tbG_in (List.mem_of_getElem? (i := 342) (by decide +kernel)) rfl
theorem m_343 : Cond.code ⟨"IharaZeta$EdgeText","acceptSign","(I)Z"⟩ prog_3_method_6_code 2 (some FieldType.boolean) ∈ tbG := tbG_in (List.mem_of_getElem? (i := 343) (by decide +kernel)) rfl
theorem m_344 : Cond.methodLink "IharaZeta$EdgeText" 33 ⟨"IharaZeta$EdgeText","acceptSecond","(ILIharaZeta$Graph;)Z"⟩ ∈ tbG := tbG_in (List.mem_of_getElem? (i := 344) (by decide +kernel)) rfl
theorem m_346 : Cond.instanceMethod ⟨"IharaZeta$EdgeText","acceptSecond","(ILIharaZeta$Graph;)Z"⟩ ∈ tbG := tbG_in (List.mem_of_getElem? (i := 346) (by decide +kernel)) rfl
theorem m_347 : Cond.code ⟨"IharaZeta$EdgeText","acceptSecond","(ILIharaZeta$Graph;)Z"⟩ prog_3_method_7_code 3 (some FieldType.boolean) ∈ tbG := tbG_in (List.mem_of_getElem? (i := 347) (by decide +kernel)) rfl
theorem m_348 : Cond.methodLink "IharaZeta$EdgeText" 36 ⟨"IharaZeta$EdgeText","acceptEnd","(ILIharaZeta$Graph;)Z"⟩ ∈ tbG := tbG_in (List.mem_of_getElem? (i := 348) (by decide +kernel)) rfl
theorem m_350 : Cond.instanceMethod ⟨"IharaZeta$EdgeText","acceptEnd","(ILIharaZeta$Graph;)Z"⟩ ∈ tbG := tbG_in (List.mem_of_getElem? (i := 350) (by decide +kernel)) rfl
theorem m_351 : Cond.code ⟨"IharaZeta$EdgeText","acceptEnd","(ILIharaZeta$Graph;)Z"⟩ prog_3_method_8_code 3 (some FieldType.boolean) ∈ tbG := tbG_in (List.mem_of_getElem? (i := 351) (by decide +kernel)) rfl
theorem m_352 : Cond.methodLink "IharaZeta$EdgeText" 57 ⟨"IharaZeta$Graph","append","(III)V"⟩ ∈ tbG := tbG_in (List.mem_of_getElem? (i := 352) (by decide +kernel)) rfl
theorem m_353 : Cond.methodLink "IharaZeta" 116 ⟨"IharaZeta$Graph","copyFrom","(LIharaZeta$Graph;)V"⟩ ∈ tbG := tbG_in (List.mem_of_getElem? (i := 353) (by decide +kernel)) rfl
theorem m_354 : Cond.methodLink "IharaZetaLaw" 44 ⟨"IharaZeta","undo","()I"⟩ ∈ tbG := tbG_in (List.mem_of_getElem? (i := 354) (by decide +kernel)) rfl
theorem m_355 : Cond.instanceMethod ⟨"IharaZeta","undo","()I"⟩ ∈ tbG := tbG_in (List.mem_of_getElem? (i := 355) (by decide +kernel)) rfl
theorem m_356 : Cond.selects "IharaZeta" ⟨"IharaZeta","undo","()I"⟩ ⟨"IharaZeta","undo","()I"⟩ ∈ tbG := tbG_in (List.mem_of_getElem? (i := 356) (by decide +kernel)) rfl
theorem m_357 : Cond.code ⟨"IharaZeta","undo","()I"⟩ prog_1_method_9_code 1 (some FieldType.int) ∈ tbG := tbG_in (List.mem_of_getElem? (i := 357) (by decide +kernel)) rfl
theorem m_358 : Cond.methodLink "IharaZeta" 122 ⟨"IharaZeta$History","restore","(LIharaZeta$Graph;)V"⟩ ∈ tbG := tbG_in (List.mem_of_getElem? (i := 358) (by decide +kernel)) rfl
theorem m_359 : Cond.instanceMethod ⟨"IharaZeta$History","restore","(LIharaZeta$Graph;)V"⟩ ∈ tbG := tbG_in (List.mem_of_getElem? (i := 359) (by decide +kernel)) rfl
theorem m_360 : Cond.selects "IharaZeta$History" ⟨"IharaZeta$History","restore","(LIharaZeta$Graph;)V"⟩ ⟨"IharaZeta$History","restore","(LIharaZeta$Graph;)V"⟩ ∈ tbG := tbG_in (List.mem_of_getElem? (i := 360) (by decide +kernel)) rfl
theorem m_361 : Cond.code ⟨"IharaZeta$History","restore","(LIharaZeta$Graph;)V"⟩ prog_6_method_3_code 2 (none : Option FieldType) ∈ tbG := tbG_in (List.mem_of_getElem? (i := 361) (by decide +kernel)) rfl
theorem m_362 : Cond.methodLink "IharaZetaLaw" 48 ⟨"IharaZeta","vertexCount","()I"⟩ ∈ tbG := tbG_in (List.mem_of_getElem? (i := 362) (by decide +kernel)) rfl
theorem m_363 : Cond.instanceMethod ⟨"IharaZeta","vertexCount","()I"⟩ ∈ tbG := tbG_in (List.mem_of_getElem? (i := 363) (by decide +kernel)) rfl
theorem m_364 : Cond.selects "IharaZeta" ⟨"IharaZeta","vertexCount","()I"⟩ ⟨"IharaZeta","vertexCount","()I"⟩ ∈ tbG := tbG_in (List.mem_of_getElem? (i := 364) (by decide +kernel)) rfl
theorem m_365 : Cond.code ⟨"IharaZeta","vertexCount","()I"⟩ prog_1_method_10_code 1 (some FieldType.int) ∈ tbG := tbG_in (List.mem_of_getElem? (i := 365) (by decide +kernel)) rfl
theorem m_366 : Cond.methodLink "IharaZetaLaw" 52 ⟨"IharaZeta","edgeCount","()I"⟩ ∈ tbG := tbG_in (List.mem_of_getElem? (i := 366) (by decide +kernel)) rfl
theorem m_367 : Cond.instanceMethod ⟨"IharaZeta","edgeCount","()I"⟩ ∈ tbG := tbG_in (List.mem_of_getElem? (i := 367) (by decide +kernel)) rfl
theorem m_368 : Cond.selects "IharaZeta" ⟨"IharaZeta","edgeCount","()I"⟩ ⟨"IharaZeta","edgeCount","()I"⟩ ∈ tbG := tbG_in (List.mem_of_getElem? (i := 368) (by decide +kernel)) rfl
theorem m_369 : Cond.code ⟨"IharaZeta","edgeCount","()I"⟩ prog_1_method_11_code 1 (some FieldType.int) ∈ tbG := tbG_in (List.mem_of_getElem? (i := 369) (by decide +kernel)) rfl
theorem m_370 : Cond.methodLink "IharaZetaLaw" 56 ⟨"IharaZeta","headOf","(I)I"⟩ ∈ tbG := tbG_in (List.mem_of_getElem? (i := 370) (by decide +kernel)) rfl
theorem m_371 : Cond.instanceMethod ⟨"IharaZeta","headOf","(I)I"⟩ ∈ tbG := tbG_in (List.mem_of_getElem? (i := 371) (by decide +kernel)) rfl
theorem m_372 : Cond.selects "IharaZeta" ⟨"IharaZeta","headOf","(I)I"⟩ ⟨"IharaZeta","headOf","(I)I"⟩ ∈ tbG := tbG_in (List.mem_of_getElem? (i := 372) (by decide +kernel)) rfl
theorem m_373 : Cond.code ⟨"IharaZeta","headOf","(I)I"⟩ prog_1_method_12_code 2 (some FieldType.int) ∈ tbG := tbG_in (List.mem_of_getElem? (i := 373) (by decide +kernel)) rfl
theorem m_374 : Cond.methodLink "IharaZeta" 125 ⟨"IharaZeta$Graph","hasDirected","(I)Z"⟩ ∈ tbG := tbG_in (List.mem_of_getElem? (i := 374) (by decide +kernel)) rfl
theorem m_375 : Cond.instanceMethod ⟨"IharaZeta$Graph","hasDirected","(I)Z"⟩ ∈ tbG := tbG_in (List.mem_of_getElem? (i := 375) (by decide +kernel)) rfl
theorem m_376 : Cond.selects "IharaZeta$Graph" ⟨"IharaZeta$Graph","hasDirected","(I)Z"⟩ ⟨"IharaZeta$Graph","hasDirected","(I)Z"⟩ ∈ tbG := tbG_in (List.mem_of_getElem? (i := 376) (by decide +kernel)) rfl
theorem m_377 : Cond.code ⟨"IharaZeta$Graph","hasDirected","(I)Z"⟩ prog_4_method_7_code 2 (some FieldType.boolean) ∈ tbG := tbG_in (List.mem_of_getElem? (i := 377) (by decide +kernel)) rfl
theorem m_378 : Cond.methodLink "IharaZeta" 128 ⟨"IharaZeta$Graph","endOf","(I)I"⟩ ∈ tbG := tbG_in (List.mem_of_getElem? (i := 378) (by decide +kernel)) rfl
theorem m_379 : Cond.instanceMethod ⟨"IharaZeta$Graph","endOf","(I)I"⟩ ∈ tbG := tbG_in (List.mem_of_getElem? (i := 379) (by decide +kernel)) rfl
theorem m_380 : Cond.selects "IharaZeta$Graph" ⟨"IharaZeta$Graph","endOf","(I)I"⟩ ⟨"IharaZeta$Graph","endOf","(I)I"⟩ ∈ tbG := tbG_in (List.mem_of_getElem? (i := 380) (by decide +kernel)) rfl
theorem m_381 : Cond.code ⟨"IharaZeta$Graph","endOf","(I)I"⟩ prog_4_method_11_code 2 (some FieldType.int) ∈ tbG := tbG_in (List.mem_of_getElem? (i := 381) (by decide +kernel)) rfl
theorem m_382 : Cond.methodLink "IharaZetaLaw" 60 ⟨"IharaZeta","follows","(II)I"⟩ ∈ tbG := tbG_in (List.mem_of_getElem? (i := 382) (by decide +kernel)) rfl
theorem m_383 : Cond.instanceMethod ⟨"IharaZeta","follows","(II)I"⟩ ∈ tbG := tbG_in (List.mem_of_getElem? (i := 383) (by decide +kernel)) rfl
theorem m_384 : Cond.selects "IharaZeta" ⟨"IharaZeta","follows","(II)I"⟩ ⟨"IharaZeta","follows","(II)I"⟩ ∈ tbG := tbG_in (List.mem_of_getElem? (i := 384) (by decide +kernel)) rfl
theorem m_385 : Cond.code ⟨"IharaZeta","follows","(II)I"⟩ prog_1_method_13_code 3 (some FieldType.int) ∈ tbG := tbG_in (List.mem_of_getElem? (i := 385) (by decide +kernel)) rfl
theorem m_386 : Cond.methodLink "IharaZeta" 132 ⟨"IharaZeta$Graph","leadsOn","(II)Z"⟩ ∈ tbG := tbG_in (List.mem_of_getElem? (i := 386) (by decide +kernel)) rfl
theorem m_387 : Cond.instanceMethod ⟨"IharaZeta$Graph","leadsOn","(II)Z"⟩ ∈ tbG := tbG_in (List.mem_of_getElem? (i := 387) (by decide +kernel)) rfl
theorem m_388 : Cond.selects "IharaZeta$Graph" ⟨"IharaZeta$Graph","leadsOn","(II)Z"⟩ ⟨"IharaZeta$Graph","leadsOn","(II)Z"⟩ ∈ tbG := tbG_in (List.mem_of_getElem? (i := 388) (by decide +kernel)) rfl
theorem m_389 : Cond.code ⟨"IharaZeta$Graph","leadsOn","(II)Z"⟩ prog_4_method_12_code 3 (some FieldType.boolean) ∈ tbG := tbG_in (List.mem_of_getElem? (i := 389) (by decide +kernel)) rfl
theorem m_390 : Cond.methodLink "IharaZeta$Graph" 32 ⟨"IharaZeta$Graph","endOf","(I)I"⟩ ∈ tbG := tbG_in (List.mem_of_getElem? (i := 390) (by decide +kernel)) rfl
theorem m_391 : Cond.methodLink "IharaZeta$Graph" 36 ⟨"IharaZeta$Graph","startOf","(I)I"⟩ ∈ tbG := tbG_in (List.mem_of_getElem? (i := 391) (by decide +kernel)) rfl
theorem m_392 : Cond.instanceMethod ⟨"IharaZeta$Graph","startOf","(I)I"⟩ ∈ tbG := tbG_in (List.mem_of_getElem? (i := 392) (by decide +kernel)) rfl
theorem m_393 : Cond.selects "IharaZeta$Graph" ⟨"IharaZeta$Graph","startOf","(I)I"⟩ ⟨"IharaZeta$Graph","startOf","(I)I"⟩ ∈ tbG := tbG_in (List.mem_of_getElem? (i := 393) (by decide +kernel)) rfl
theorem m_394 : Cond.code ⟨"IharaZeta$Graph","startOf","(I)I"⟩ prog_4_method_10_code 2 (some FieldType.int) ∈ tbG := tbG_in (List.mem_of_getElem? (i := 394) (by decide +kernel)) rfl
theorem m_395 : Cond.methodLink "IharaZetaLaw" 65 ⟨"IharaZeta","degree","(I)I"⟩ ∈ tbG := tbG_in (List.mem_of_getElem? (i := 395) (by decide +kernel)) rfl
theorem m_396 : Cond.instanceMethod ⟨"IharaZeta","degree","(I)I"⟩ ∈ tbG := tbG_in (List.mem_of_getElem? (i := 396) (by decide +kernel)) rfl
theorem m_397 : Cond.selects "IharaZeta" ⟨"IharaZeta","degree","(I)I"⟩ ⟨"IharaZeta","degree","(I)I"⟩ ∈ tbG := tbG_in (List.mem_of_getElem? (i := 397) (by decide +kernel)) rfl
theorem m_398 : Cond.code ⟨"IharaZeta","degree","(I)I"⟩ prog_1_method_14_code 2 (some FieldType.int) ∈ tbG := tbG_in (List.mem_of_getElem? (i := 398) (by decide +kernel)) rfl
theorem m_399 : Cond.methodLink "IharaZeta" 136 ⟨"IharaZeta$Graph","edgesAt","(I)I"⟩ ∈ tbG := tbG_in (List.mem_of_getElem? (i := 399) (by decide +kernel)) rfl
theorem m_400 : Cond.instanceMethod ⟨"IharaZeta$Graph","edgesAt","(I)I"⟩ ∈ tbG := tbG_in (List.mem_of_getElem? (i := 400) (by decide +kernel)) rfl
theorem m_401 : Cond.selects "IharaZeta$Graph" ⟨"IharaZeta$Graph","edgesAt","(I)I"⟩ ⟨"IharaZeta$Graph","edgesAt","(I)I"⟩ ∈ tbG := tbG_in (List.mem_of_getElem? (i := 401) (by decide +kernel)) rfl
theorem m_402 : Cond.code ⟨"IharaZeta$Graph","edgesAt","(I)I"⟩ prog_4_method_13_code 4 (some FieldType.int) ∈ tbG := tbG_in (List.mem_of_getElem? (i := 402) (by decide +kernel)) rfl
theorem m_403 : Cond.methodLink "IharaZetaLaw" 69 ⟨"IharaZeta","components","()I"⟩ ∈ tbG := tbG_in (List.mem_of_getElem? (i := 403) (by decide +kernel)) rfl
theorem m_404 : Cond.instanceMethod ⟨"IharaZeta","components","()I"⟩ ∈ tbG := tbG_in (List.mem_of_getElem? (i := 404) (by decide +kernel)) rfl
theorem m_405 : Cond.selects "IharaZeta" ⟨"IharaZeta","components","()I"⟩ ⟨"IharaZeta","components","()I"⟩ ∈ tbG := tbG_in (List.mem_of_getElem? (i := 405) (by decide +kernel)) rfl
theorem m_406 : Cond.code ⟨"IharaZeta","components","()I"⟩ prog_1_method_15_code 1 (some FieldType.int) ∈ tbG := tbG_in (List.mem_of_getElem? (i := 406) (by decide +kernel)) rfl
theorem m_407 : Cond.methodLink "IharaZeta" 139 ⟨"IharaZeta$Grouping","countGroups","(LIharaZeta$Graph;)I"⟩ ∈ tbG := tbG_in (List.mem_of_getElem? (i := 407) (by decide +kernel)) rfl
theorem m_408 : Cond.instanceMethod ⟨"IharaZeta$Grouping","countGroups","(LIharaZeta$Graph;)I"⟩ ∈ tbG := tbG_in (List.mem_of_getElem? (i := 408) (by decide +kernel)) rfl
theorem m_409 : Cond.selects "IharaZeta$Grouping" ⟨"IharaZeta$Grouping","countGroups","(LIharaZeta$Graph;)I"⟩ ⟨"IharaZeta$Grouping","countGroups","(LIharaZeta$Graph;)I"⟩ ∈ tbG := tbG_in (List.mem_of_getElem? (i := 409) (by decide +kernel)) rfl
theorem m_410 : Cond.code ⟨"IharaZeta$Grouping","countGroups","(LIharaZeta$Graph;)I"⟩ prog_5_method_2_code 4 (some FieldType.int) ∈ tbG := tbG_in (List.mem_of_getElem? (i := 410) (by decide +kernel)) rfl
theorem m_411 : Cond.methodLink "IharaZeta$Grouping" 18 ⟨"IharaZeta$Grouping","separate","()V"⟩ ∈ tbG := tbG_in (List.mem_of_getElem? (i := 411) (by decide +kernel)) rfl
theorem m_413 : Cond.instanceMethod ⟨"IharaZeta$Grouping","separate","()V"⟩ ∈ tbG := tbG_in (List.mem_of_getElem? (i := 413) (by decide +kernel)) rfl
theorem m_414 : Cond.code ⟨"IharaZeta$Grouping","separate","()V"⟩ prog_5_method_6_code 2 (none : Option FieldType) ∈ tbG := tbG_in (List.mem_of_getElem? (i := 414) (by decide +kernel)) rfl
theorem m_415 : Cond.methodLink "IharaZeta$Grouping" 30 ⟨"IharaZeta$Grouping","unite","(LIharaZeta$Graph;I)Z"⟩ ∈ tbG := tbG_in (List.mem_of_getElem? (i := 415) (by decide +kernel)) rfl
theorem m_417 : Cond.instanceMethod ⟨"IharaZeta$Grouping","unite","(LIharaZeta$Graph;I)Z"⟩ ∈ tbG := tbG_in (List.mem_of_getElem? (i := 417) (by decide +kernel)) rfl
theorem m_418 : Cond.code ⟨"IharaZeta$Grouping","unite","(LIharaZeta$Graph;I)Z"⟩ prog_5_method_7_code 7 (some FieldType.boolean) ∈ tbG := tbG_in (List.mem_of_getElem? (i := 418) (by decide +kernel)) rfl
theorem m_419 : Cond.methodLink "IharaZeta$Grouping" 34 ⟨"IharaZeta$Grouping","turnFor","(LIharaZeta$Graph;I)I"⟩ ∈ tbG := tbG_in (List.mem_of_getElem? (i := 419) (by decide +kernel)) rfl
theorem m_421 : Cond.instanceMethod ⟨"IharaZeta$Grouping","turnFor","(LIharaZeta$Graph;I)I"⟩ ∈ tbG := tbG_in (List.mem_of_getElem? (i := 421) (by decide +kernel)) rfl
theorem m_422 : Cond.code ⟨"IharaZeta$Grouping","turnFor","(LIharaZeta$Graph;I)I"⟩ prog_5_method_8_code 4 (some FieldType.int) ∈ tbG := tbG_in (List.mem_of_getElem? (i := 422) (by decide +kernel)) rfl
theorem m_423 : Cond.methodLink "IharaZetaLaw" 73 ⟨"IharaZeta","rank","()I"⟩ ∈ tbG := tbG_in (List.mem_of_getElem? (i := 423) (by decide +kernel)) rfl
theorem m_424 : Cond.instanceMethod ⟨"IharaZeta","rank","()I"⟩ ∈ tbG := tbG_in (List.mem_of_getElem? (i := 424) (by decide +kernel)) rfl
theorem m_425 : Cond.selects "IharaZeta" ⟨"IharaZeta","rank","()I"⟩ ⟨"IharaZeta","rank","()I"⟩ ∈ tbG := tbG_in (List.mem_of_getElem? (i := 425) (by decide +kernel)) rfl
theorem m_426 : Cond.code ⟨"IharaZeta","rank","()I"⟩ prog_1_method_16_code 1 (some FieldType.int) ∈ tbG := tbG_in (List.mem_of_getElem? (i := 426) (by decide +kernel)) rfl
theorem m_427 : Cond.methodLink "IharaZetaLaw" 77 ⟨"IharaZeta","isBalanced","()I"⟩ ∈ tbG := tbG_in (List.mem_of_getElem? (i := 427) (by decide +kernel)) rfl
theorem m_428 : Cond.instanceMethod ⟨"IharaZeta","isBalanced","()I"⟩ ∈ tbG := tbG_in (List.mem_of_getElem? (i := 428) (by decide +kernel)) rfl
theorem m_429 : Cond.selects "IharaZeta" ⟨"IharaZeta","isBalanced","()I"⟩ ⟨"IharaZeta","isBalanced","()I"⟩ ∈ tbG := tbG_in (List.mem_of_getElem? (i := 429) (by decide +kernel)) rfl
theorem m_430 : Cond.code ⟨"IharaZeta","isBalanced","()I"⟩ prog_1_method_17_code 1 (some FieldType.int) ∈ tbG := tbG_in (List.mem_of_getElem? (i := 430) (by decide +kernel)) rfl
theorem m_431 : Cond.methodLink "IharaZeta" 142 ⟨"IharaZeta$Grouping","canDivide","(LIharaZeta$Graph;)Z"⟩ ∈ tbG := tbG_in (List.mem_of_getElem? (i := 431) (by decide +kernel)) rfl
theorem m_432 : Cond.instanceMethod ⟨"IharaZeta$Grouping","canDivide","(LIharaZeta$Graph;)Z"⟩ ∈ tbG := tbG_in (List.mem_of_getElem? (i := 432) (by decide +kernel)) rfl
theorem m_433 : Cond.selects "IharaZeta$Grouping" ⟨"IharaZeta$Grouping","canDivide","(LIharaZeta$Graph;)Z"⟩ ⟨"IharaZeta$Grouping","canDivide","(LIharaZeta$Graph;)Z"⟩ ∈ tbG := tbG_in (List.mem_of_getElem? (i := 433) (by decide +kernel)) rfl
theorem m_434 : Cond.code ⟨"IharaZeta$Grouping","canDivide","(LIharaZeta$Graph;)Z"⟩ prog_5_method_3_code 3 (some FieldType.boolean) ∈ tbG := tbG_in (List.mem_of_getElem? (i := 434) (by decide +kernel)) rfl
theorem m_435 : Cond.methodLink "IharaZetaLaw" 81 ⟨"IharaZeta","walks","(I)J"⟩ ∈ tbG := tbG_in (List.mem_of_getElem? (i := 435) (by decide +kernel)) rfl
theorem m_436 : Cond.instanceMethod ⟨"IharaZeta","walks","(I)J"⟩ ∈ tbG := tbG_in (List.mem_of_getElem? (i := 436) (by decide +kernel)) rfl
theorem m_437 : Cond.selects "IharaZeta" ⟨"IharaZeta","walks","(I)J"⟩ ⟨"IharaZeta","walks","(I)J"⟩ ∈ tbG := tbG_in (List.mem_of_getElem? (i := 437) (by decide +kernel)) rfl
theorem m_438 : Cond.code ⟨"IharaZeta","walks","(I)J"⟩ prog_1_method_18_code 2 (some FieldType.long) ∈ tbG := tbG_in (List.mem_of_getElem? (i := 438) (by decide +kernel)) rfl
theorem m_439 : Cond.methodLink "IharaZeta" 146 ⟨"IharaZeta","isWalkLength","(I)Z"⟩ ∈ tbG := tbG_in (List.mem_of_getElem? (i := 439) (by decide +kernel)) rfl
theorem m_440 : Cond.static ⟨"IharaZeta","isWalkLength","(I)Z"⟩ ∈ tbG := tbG_in (List.mem_of_getElem? (i := 440) (by decide +kernel)) rfl
theorem m_441 : Cond.code ⟨"IharaZeta","isWalkLength","(I)Z"⟩ prog_1_method_37_code 1 (some FieldType.boolean) ∈ tbG := tbG_in (List.mem_of_getElem? (i := 441) (by decide +kernel)) rfl
theorem m_442 : Cond.constantLong "IharaZeta" 149 (-9223372036854775808 : Int64) ∈ tbG := tbG_in (List.mem_of_getElem? (i := 442) (by decide +kernel)) rfl
theorem m_443 : Cond.methodLink "IharaZeta" 151 ⟨"IharaZeta$WalkCounter","countClosed","(LIharaZeta$Graph;)V"⟩ ∈ tbG := tbG_in (List.mem_of_getElem? (i := 443) (by decide +kernel)) rfl
theorem m_444 : Cond.instanceMethod ⟨"IharaZeta$WalkCounter","countClosed","(LIharaZeta$Graph;)V"⟩ ∈ tbG := tbG_in (List.mem_of_getElem? (i := 444) (by decide +kernel)) rfl
theorem m_445 : Cond.selects "IharaZeta$WalkCounter" ⟨"IharaZeta$WalkCounter","countClosed","(LIharaZeta$Graph;)V"⟩ ⟨"IharaZeta$WalkCounter","countClosed","(LIharaZeta$Graph;)V"⟩ ∈ tbG := tbG_in (List.mem_of_getElem? (i := 445) (by decide +kernel)) rfl
theorem m_446 : Cond.code ⟨"IharaZeta$WalkCounter","countClosed","(LIharaZeta$Graph;)V"⟩ prog_9_method_2_code 2 (none : Option FieldType) ∈ tbG := tbG_in (List.mem_of_getElem? (i := 446) (by decide +kernel)) rfl
theorem m_447 : Cond.methodLink "IharaZeta$WalkCounter" 30 ⟨"IharaZeta$WalkCounter","addReturns","(LIharaZeta$Graph;Z[J)V"⟩ ∈ tbG := tbG_in (List.mem_of_getElem? (i := 447) (by decide +kernel)) rfl
theorem m_449 : Cond.instanceMethod ⟨"IharaZeta$WalkCounter","addReturns","(LIharaZeta$Graph;Z[J)V"⟩ ∈ tbG := tbG_in (List.mem_of_getElem? (i := 449) (by decide +kernel)) rfl
theorem m_450 : Cond.code ⟨"IharaZeta$WalkCounter","addReturns","(LIharaZeta$Graph;Z[J)V"⟩ prog_9_method_6_code 7 (none : Option FieldType) ∈ tbG := tbG_in (List.mem_of_getElem? (i := 450) (by decide +kernel)) rfl
theorem m_451 : Cond.methodLink "IharaZeta$WalkCounter" 44 ⟨"java/util/Arrays","fill","([JJ)V"⟩ ∈ tbG := tbG_in (List.mem_of_getElem? (i := 451) (by decide +kernel)) rfl
theorem m_452 : Cond.static ⟨"java/util/Arrays","fill","([JJ)V"⟩ ∈ tbG := tbG_in (List.mem_of_getElem? (i := 452) (by decide +kernel)) rfl
theorem m_453 : Cond.code ⟨"java/util/Arrays","fill","([JJ)V"⟩ prog_14_method_101_code 5 (none : Option FieldType) ∈ tbG := tbG_in (List.mem_of_getElem? (i := 453) (by decide +kernel)) rfl
theorem m_454 : Cond.methodLink "IharaZeta$WalkCounter" 56 ⟨"IharaZeta$WalkCounter","goOn","(LIharaZeta$Graph;Z)V"⟩ ∈ tbG := tbG_in (List.mem_of_getElem? (i := 454) (by decide +kernel)) rfl
theorem m_456 : Cond.instanceMethod ⟨"IharaZeta$WalkCounter","goOn","(LIharaZeta$Graph;Z)V"⟩ ∈ tbG := tbG_in (List.mem_of_getElem? (i := 456) (by decide +kernel)) rfl
theorem m_457 : Cond.code ⟨"IharaZeta$WalkCounter","goOn","(LIharaZeta$Graph;Z)V"⟩ prog_9_method_7_code 12 (none : Option FieldType) ∈ tbG := tbG_in (List.mem_of_getElem? (i := 457) (by decide +kernel)) rfl
theorem m_458 : Cond.methodLink "IharaZeta$WalkCounter" 62 ⟨"IharaZeta$Graph","endOf","(I)I"⟩ ∈ tbG := tbG_in (List.mem_of_getElem? (i := 458) (by decide +kernel)) rfl
theorem m_459 : Cond.methodLink "IharaZeta$WalkCounter" 70 ⟨"IharaZeta$Graph","startOf","(I)I"⟩ ∈ tbG := tbG_in (List.mem_of_getElem? (i := 459) (by decide +kernel)) rfl
theorem m_460 : Cond.constantLong "IharaZeta$WalkCounter" 60 (2 : Int64) ∈ tbG := tbG_in (List.mem_of_getElem? (i := 460) (by decide +kernel)) rfl
theorem m_461 : Cond.methodLink "IharaZetaLaw" 86 ⟨"IharaZeta","signedWalks","(I)J"⟩ ∈ tbG := tbG_in (List.mem_of_getElem? (i := 461) (by decide +kernel)) rfl
theorem m_462 : Cond.instanceMethod ⟨"IharaZeta","signedWalks","(I)J"⟩ ∈ tbG := tbG_in (List.mem_of_getElem? (i := 462) (by decide +kernel)) rfl
theorem m_463 : Cond.selects "IharaZeta" ⟨"IharaZeta","signedWalks","(I)J"⟩ ⟨"IharaZeta","signedWalks","(I)J"⟩ ∈ tbG := tbG_in (List.mem_of_getElem? (i := 463) (by decide +kernel)) rfl
theorem m_464 : Cond.code ⟨"IharaZeta","signedWalks","(I)J"⟩ prog_1_method_19_code 2 (some FieldType.long) ∈ tbG := tbG_in (List.mem_of_getElem? (i := 464) (by decide +kernel)) rfl
theorem m_465 : Cond.methodLink "IharaZeta" 158 ⟨"IharaZeta$WalkCounter","countClosedSigned","(LIharaZeta$Graph;)V"⟩ ∈ tbG := tbG_in (List.mem_of_getElem? (i := 465) (by decide +kernel)) rfl
theorem m_466 : Cond.instanceMethod ⟨"IharaZeta$WalkCounter","countClosedSigned","(LIharaZeta$Graph;)V"⟩ ∈ tbG := tbG_in (List.mem_of_getElem? (i := 466) (by decide +kernel)) rfl
theorem m_467 : Cond.selects "IharaZeta$WalkCounter" ⟨"IharaZeta$WalkCounter","countClosedSigned","(LIharaZeta$Graph;)V"⟩ ⟨"IharaZeta$WalkCounter","countClosedSigned","(LIharaZeta$Graph;)V"⟩ ∈ tbG := tbG_in (List.mem_of_getElem? (i := 467) (by decide +kernel)) rfl
theorem m_468 : Cond.code ⟨"IharaZeta$WalkCounter","countClosedSigned","(LIharaZeta$Graph;)V"⟩ prog_9_method_3_code 2 (none : Option FieldType) ∈ tbG := tbG_in (List.mem_of_getElem? (i := 468) (by decide +kernel)) rfl
theorem m_469 : Cond.methodLink "IharaZetaLaw" 90 ⟨"IharaZeta","coverWalks","(I)J"⟩ ∈ tbG := tbG_in (List.mem_of_getElem? (i := 469) (by decide +kernel)) rfl
theorem m_470 : Cond.instanceMethod ⟨"IharaZeta","coverWalks","(I)J"⟩ ∈ tbG := tbG_in (List.mem_of_getElem? (i := 470) (by decide +kernel)) rfl
theorem m_471 : Cond.selects "IharaZeta" ⟨"IharaZeta","coverWalks","(I)J"⟩ ⟨"IharaZeta","coverWalks","(I)J"⟩ ∈ tbG := tbG_in (List.mem_of_getElem? (i := 471) (by decide +kernel)) rfl
theorem m_472 : Cond.code ⟨"IharaZeta","coverWalks","(I)J"⟩ prog_1_method_20_code 2 (some FieldType.long) ∈ tbG := tbG_in (List.mem_of_getElem? (i := 472) (by decide +kernel)) rfl
theorem m_473 : Cond.methodLink "IharaZetaLaw" 94 ⟨"IharaZeta","primes","(I)J"⟩ ∈ tbG := tbG_in (List.mem_of_getElem? (i := 473) (by decide +kernel)) rfl
theorem m_474 : Cond.instanceMethod ⟨"IharaZeta","primes","(I)J"⟩ ∈ tbG := tbG_in (List.mem_of_getElem? (i := 474) (by decide +kernel)) rfl
theorem m_475 : Cond.selects "IharaZeta" ⟨"IharaZeta","primes","(I)J"⟩ ⟨"IharaZeta","primes","(I)J"⟩ ∈ tbG := tbG_in (List.mem_of_getElem? (i := 475) (by decide +kernel)) rfl
theorem m_476 : Cond.code ⟨"IharaZeta","primes","(I)J"⟩ prog_1_method_21_code 2 (some FieldType.long) ∈ tbG := tbG_in (List.mem_of_getElem? (i := 476) (by decide +kernel)) rfl
theorem m_477 : Cond.methodLink "IharaZeta" 164 ⟨"IharaZeta$WalkCounter","countPrimitive","(LIharaZeta$Graph;)V"⟩ ∈ tbG := tbG_in (List.mem_of_getElem? (i := 477) (by decide +kernel)) rfl
theorem m_478 : Cond.instanceMethod ⟨"IharaZeta$WalkCounter","countPrimitive","(LIharaZeta$Graph;)V"⟩ ∈ tbG := tbG_in (List.mem_of_getElem? (i := 478) (by decide +kernel)) rfl
theorem m_479 : Cond.selects "IharaZeta$WalkCounter" ⟨"IharaZeta$WalkCounter","countPrimitive","(LIharaZeta$Graph;)V"⟩ ⟨"IharaZeta$WalkCounter","countPrimitive","(LIharaZeta$Graph;)V"⟩ ∈ tbG := tbG_in (List.mem_of_getElem? (i := 479) (by decide +kernel)) rfl
theorem m_480 : Cond.code ⟨"IharaZeta$WalkCounter","countPrimitive","(LIharaZeta$Graph;)V"⟩ prog_9_method_4_code 4 (none : Option FieldType) ∈ tbG := tbG_in (List.mem_of_getElem? (i := 480) (by decide +kernel)) rfl
theorem m_481 : Cond.methodLink "IharaZeta$WalkCounter" 34 ⟨"IharaZeta$WalkCounter","countClosed","(LIharaZeta$Graph;)V"⟩ ∈ tbG := tbG_in (List.mem_of_getElem? (i := 481) (by decide +kernel)) rfl
theorem m_482 : Cond.methodLink "IharaZetaLaw" 98 ⟨"IharaZeta","positivePrimes","(I)J"⟩ ∈ tbG := tbG_in (List.mem_of_getElem? (i := 482) (by decide +kernel)) rfl
theorem m_483 : Cond.instanceMethod ⟨"IharaZeta","positivePrimes","(I)J"⟩ ∈ tbG := tbG_in (List.mem_of_getElem? (i := 483) (by decide +kernel)) rfl
theorem m_484 : Cond.selects "IharaZeta" ⟨"IharaZeta","positivePrimes","(I)J"⟩ ⟨"IharaZeta","positivePrimes","(I)J"⟩ ∈ tbG := tbG_in (List.mem_of_getElem? (i := 484) (by decide +kernel)) rfl
theorem m_485 : Cond.code ⟨"IharaZeta","positivePrimes","(I)J"⟩ prog_1_method_22_code 4 (some FieldType.long) ∈ tbG := tbG_in (List.mem_of_getElem? (i := 485) (by decide +kernel)) rfl
theorem m_486 : Cond.methodLink "IharaZeta" 170 ⟨"IharaZeta$WalkCounter","countPrimitiveSigned","(LIharaZeta$Graph;)V"⟩ ∈ tbG := tbG_in (List.mem_of_getElem? (i := 486) (by decide +kernel)) rfl
theorem m_487 : Cond.instanceMethod ⟨"IharaZeta$WalkCounter","countPrimitiveSigned","(LIharaZeta$Graph;)V"⟩ ∈ tbG := tbG_in (List.mem_of_getElem? (i := 487) (by decide +kernel)) rfl
theorem m_488 : Cond.selects "IharaZeta$WalkCounter" ⟨"IharaZeta$WalkCounter","countPrimitiveSigned","(LIharaZeta$Graph;)V"⟩ ⟨"IharaZeta$WalkCounter","countPrimitiveSigned","(LIharaZeta$Graph;)V"⟩ ∈ tbG := tbG_in (List.mem_of_getElem? (i := 488) (by decide +kernel)) rfl
theorem m_489 : Cond.code ⟨"IharaZeta$WalkCounter","countPrimitiveSigned","(LIharaZeta$Graph;)V"⟩ prog_9_method_5_code 5 (none : Option FieldType) ∈ tbG := tbG_in (List.mem_of_getElem? (i := 489) (by decide +kernel)) rfl
theorem m_490 : Cond.methodLink "IharaZeta$WalkCounter" 38 ⟨"IharaZeta$WalkCounter","countPrimitive","(LIharaZeta$Graph;)V"⟩ ∈ tbG := tbG_in (List.mem_of_getElem? (i := 490) (by decide +kernel)) rfl
theorem m_491 : Cond.methodLink "IharaZeta$WalkCounter" 41 ⟨"IharaZeta$WalkCounter","countClosedSigned","(LIharaZeta$Graph;)V"⟩ ∈ tbG := tbG_in (List.mem_of_getElem? (i := 491) (by decide +kernel)) rfl
theorem m_492 : Cond.constantLong "IharaZeta" 176 (2 : Int64) ∈ tbG := tbG_in (List.mem_of_getElem? (i := 492) (by decide +kernel)) rfl
theorem m_493 : Cond.methodLink "IharaZetaLaw" 102 ⟨"IharaZeta","girth","()I"⟩ ∈ tbG := tbG_in (List.mem_of_getElem? (i := 493) (by decide +kernel)) rfl
theorem m_494 : Cond.instanceMethod ⟨"IharaZeta","girth","()I"⟩ ∈ tbG := tbG_in (List.mem_of_getElem? (i := 494) (by decide +kernel)) rfl
theorem m_495 : Cond.selects "IharaZeta" ⟨"IharaZeta","girth","()I"⟩ ⟨"IharaZeta","girth","()I"⟩ ∈ tbG := tbG_in (List.mem_of_getElem? (i := 495) (by decide +kernel)) rfl
theorem m_496 : Cond.code ⟨"IharaZeta","girth","()I"⟩ prog_1_method_23_code 2 (some FieldType.int) ∈ tbG := tbG_in (List.mem_of_getElem? (i := 496) (by decide +kernel)) rfl
theorem m_497 : Cond.methodLink "IharaZetaLaw" 106 ⟨"IharaZeta","period","()I"⟩ ∈ tbG := tbG_in (List.mem_of_getElem? (i := 497) (by decide +kernel)) rfl
theorem m_498 : Cond.instanceMethod ⟨"IharaZeta","period","()I"⟩ ∈ tbG := tbG_in (List.mem_of_getElem? (i := 498) (by decide +kernel)) rfl
theorem m_499 : Cond.selects "IharaZeta" ⟨"IharaZeta","period","()I"⟩ ⟨"IharaZeta","period","()I"⟩ ∈ tbG := tbG_in (List.mem_of_getElem? (i := 499) (by decide +kernel)) rfl
theorem m_500 : Cond.code ⟨"IharaZeta","period","()I"⟩ prog_1_method_24_code 3 (some FieldType.int) ∈ tbG := tbG_in (List.mem_of_getElem? (i := 500) (by decide +kernel)) rfl
theorem m_501 : Cond.methodLink "IharaZeta" 178 ⟨"IharaZeta","commonDivisor","(II)I"⟩ ∈ tbG := tbG_in (List.mem_of_getElem? (i := 501) (by decide +kernel)) rfl
theorem m_502 : Cond.static ⟨"IharaZeta","commonDivisor","(II)I"⟩ ∈ tbG := tbG_in (List.mem_of_getElem? (i := 502) (by decide +kernel)) rfl
theorem m_503 : Cond.code ⟨"IharaZeta","commonDivisor","(II)I"⟩ prog_1_method_40_code 3 (some FieldType.int) ∈ tbG := tbG_in (List.mem_of_getElem? (i := 503) (by decide +kernel)) rfl
theorem m_504 : Cond.methodLink "IharaZetaLaw" 110 ⟨"IharaZeta","primeEdge","(III)I"⟩ ∈ tbG := tbG_in (List.mem_of_getElem? (i := 504) (by decide +kernel)) rfl
theorem m_505 : Cond.instanceMethod ⟨"IharaZeta","primeEdge","(III)I"⟩ ∈ tbG := tbG_in (List.mem_of_getElem? (i := 505) (by decide +kernel)) rfl
theorem m_506 : Cond.selects "IharaZeta" ⟨"IharaZeta","primeEdge","(III)I"⟩ ⟨"IharaZeta","primeEdge","(III)I"⟩ ∈ tbG := tbG_in (List.mem_of_getElem? (i := 506) (by decide +kernel)) rfl
theorem m_507 : Cond.code ⟨"IharaZeta","primeEdge","(III)I"⟩ prog_1_method_25_code 4 (some FieldType.int) ∈ tbG := tbG_in (List.mem_of_getElem? (i := 507) (by decide +kernel)) rfl
theorem m_508 : Cond.methodLink "IharaZeta" 182 ⟨"IharaZeta","isPrimeLength","(I)Z"⟩ ∈ tbG := tbG_in (List.mem_of_getElem? (i := 508) (by decide +kernel)) rfl
theorem m_509 : Cond.static ⟨"IharaZeta","isPrimeLength","(I)Z"⟩ ∈ tbG := tbG_in (List.mem_of_getElem? (i := 509) (by decide +kernel)) rfl
theorem m_510 : Cond.code ⟨"IharaZeta","isPrimeLength","(I)Z"⟩ prog_1_method_38_code 1 (some FieldType.boolean) ∈ tbG := tbG_in (List.mem_of_getElem? (i := 510) (by decide +kernel)) rfl
theorem m_511 : Cond.methodLink "IharaZeta" 185 ⟨"IharaZeta$PrimeSearch","find","(LIharaZeta$Graph;II)Z"⟩ ∈ tbG := tbG_in (List.mem_of_getElem? (i := 511) (by decide +kernel)) rfl
theorem m_512 : Cond.instanceMethod ⟨"IharaZeta$PrimeSearch","find","(LIharaZeta$Graph;II)Z"⟩ ∈ tbG := tbG_in (List.mem_of_getElem? (i := 512) (by decide +kernel)) rfl
theorem m_513 : Cond.selects "IharaZeta$PrimeSearch" ⟨"IharaZeta$PrimeSearch","find","(LIharaZeta$Graph;II)Z"⟩ ⟨"IharaZeta$PrimeSearch","find","(LIharaZeta$Graph;II)Z"⟩ ∈ tbG := tbG_in (List.mem_of_getElem? (i := 513) (by decide +kernel)) rfl
theorem m_514 : Cond.code ⟨"IharaZeta$PrimeSearch","find","(LIharaZeta$Graph;II)Z"⟩ prog_7_method_2_code 4 (some FieldType.boolean) ∈ tbG := tbG_in (List.mem_of_getElem? (i := 514) (by decide +kernel)) rfl
theorem m_515 : Cond.methodLink "IharaZeta$PrimeSearch" 19 ⟨"IharaZeta$PrimeSearch","extend","(LIharaZeta$Graph;III)Z"⟩ ∈ tbG := tbG_in (List.mem_of_getElem? (i := 515) (by decide +kernel)) rfl
theorem m_517 : Cond.instanceMethod ⟨"IharaZeta$PrimeSearch","extend","(LIharaZeta$Graph;III)Z"⟩ ∈ tbG := tbG_in (List.mem_of_getElem? (i := 517) (by decide +kernel)) rfl
theorem m_518 : Cond.code ⟨"IharaZeta$PrimeSearch","extend","(LIharaZeta$Graph;III)Z"⟩ prog_7_method_4_code 8 (some FieldType.boolean) ∈ tbG := tbG_in (List.mem_of_getElem? (i := 518) (by decide +kernel)) rfl
theorem m_519 : Cond.methodLink "IharaZeta$PrimeSearch" 28 ⟨"IharaZeta$PrimeSearch","isWanted","(LIharaZeta$Graph;II)Z"⟩ ∈ tbG := tbG_in (List.mem_of_getElem? (i := 519) (by decide +kernel)) rfl
theorem m_521 : Cond.instanceMethod ⟨"IharaZeta$PrimeSearch","isWanted","(LIharaZeta$Graph;II)Z"⟩ ∈ tbG := tbG_in (List.mem_of_getElem? (i := 521) (by decide +kernel)) rfl
theorem m_522 : Cond.code ⟨"IharaZeta$PrimeSearch","isWanted","(LIharaZeta$Graph;II)Z"⟩ prog_7_method_5_code 4 (some FieldType.boolean) ∈ tbG := tbG_in (List.mem_of_getElem? (i := 522) (by decide +kernel)) rfl
theorem m_523 : Cond.methodLink "IharaZeta$PrimeSearch" 35 ⟨"IharaZeta$Graph","leadsOn","(II)Z"⟩ ∈ tbG := tbG_in (List.mem_of_getElem? (i := 523) (by decide +kernel)) rfl
theorem m_524 : Cond.methodLink "IharaZetaLaw" 114 ⟨"IharaZeta","primeSign","(II)I"⟩ ∈ tbG := tbG_in (List.mem_of_getElem? (i := 524) (by decide +kernel)) rfl
theorem m_525 : Cond.instanceMethod ⟨"IharaZeta","primeSign","(II)I"⟩ ∈ tbG := tbG_in (List.mem_of_getElem? (i := 525) (by decide +kernel)) rfl
theorem m_526 : Cond.selects "IharaZeta" ⟨"IharaZeta","primeSign","(II)I"⟩ ⟨"IharaZeta","primeSign","(II)I"⟩ ∈ tbG := tbG_in (List.mem_of_getElem? (i := 526) (by decide +kernel)) rfl
theorem m_527 : Cond.code ⟨"IharaZeta","primeSign","(II)I"⟩ prog_1_method_26_code 3 (some FieldType.int) ∈ tbG := tbG_in (List.mem_of_getElem? (i := 527) (by decide +kernel)) rfl
theorem m_528 : Cond.methodLink "IharaZeta" 192 ⟨"IharaZeta$PrimeSearch","signOfWord","(LIharaZeta$Graph;I)I"⟩ ∈ tbG := tbG_in (List.mem_of_getElem? (i := 528) (by decide +kernel)) rfl
theorem m_529 : Cond.instanceMethod ⟨"IharaZeta$PrimeSearch","signOfWord","(LIharaZeta$Graph;I)I"⟩ ∈ tbG := tbG_in (List.mem_of_getElem? (i := 529) (by decide +kernel)) rfl
theorem m_530 : Cond.selects "IharaZeta$PrimeSearch" ⟨"IharaZeta$PrimeSearch","signOfWord","(LIharaZeta$Graph;I)I"⟩ ⟨"IharaZeta$PrimeSearch","signOfWord","(LIharaZeta$Graph;I)I"⟩ ∈ tbG := tbG_in (List.mem_of_getElem? (i := 530) (by decide +kernel)) rfl
theorem m_531 : Cond.code ⟨"IharaZeta$PrimeSearch","signOfWord","(LIharaZeta$Graph;I)I"⟩ prog_7_method_3_code 5 (some FieldType.int) ∈ tbG := tbG_in (List.mem_of_getElem? (i := 531) (by decide +kernel)) rfl
theorem m_532 : Cond.methodLink "IharaZetaLaw" 118 ⟨"IharaZeta","edgeCoefficient","(I)J"⟩ ∈ tbG := tbG_in (List.mem_of_getElem? (i := 532) (by decide +kernel)) rfl
theorem m_533 : Cond.instanceMethod ⟨"IharaZeta","edgeCoefficient","(I)J"⟩ ∈ tbG := tbG_in (List.mem_of_getElem? (i := 533) (by decide +kernel)) rfl
theorem m_534 : Cond.selects "IharaZeta" ⟨"IharaZeta","edgeCoefficient","(I)J"⟩ ⟨"IharaZeta","edgeCoefficient","(I)J"⟩ ∈ tbG := tbG_in (List.mem_of_getElem? (i := 534) (by decide +kernel)) rfl
theorem m_535 : Cond.code ⟨"IharaZeta","edgeCoefficient","(I)J"⟩ prog_1_method_27_code 2 (some FieldType.long) ∈ tbG := tbG_in (List.mem_of_getElem? (i := 535) (by decide +kernel)) rfl
theorem m_536 : Cond.methodLink "IharaZeta" 196 ⟨"IharaZeta","isIndex","(II)Z"⟩ ∈ tbG := tbG_in (List.mem_of_getElem? (i := 536) (by decide +kernel)) rfl
theorem m_537 : Cond.static ⟨"IharaZeta","isIndex","(II)Z"⟩ ∈ tbG := tbG_in (List.mem_of_getElem? (i := 537) (by decide +kernel)) rfl
theorem m_538 : Cond.code ⟨"IharaZeta","isIndex","(II)Z"⟩ prog_1_method_39_code 2 (some FieldType.boolean) ∈ tbG := tbG_in (List.mem_of_getElem? (i := 538) (by decide +kernel)) rfl
theorem m_539 : Cond.methodLink "IharaZeta" 199 ⟨"IharaZeta","makeEdgePolynomial","()V"⟩ ∈ tbG := tbG_in (List.mem_of_getElem? (i := 539) (by decide +kernel)) rfl
theorem m_541 : Cond.instanceMethod ⟨"IharaZeta","makeEdgePolynomial","()V"⟩ ∈ tbG := tbG_in (List.mem_of_getElem? (i := 541) (by decide +kernel)) rfl
theorem m_542 : Cond.code ⟨"IharaZeta","makeEdgePolynomial","()V"⟩ prog_1_method_36_code 1 (none : Option FieldType) ∈ tbG := tbG_in (List.mem_of_getElem? (i := 542) (by decide +kernel)) rfl
theorem m_543 : Cond.methodLink "IharaZeta" 205 ⟨"IharaZeta$EdgePolynomial","makeFrom","([J)V"⟩ ∈ tbG := tbG_in (List.mem_of_getElem? (i := 543) (by decide +kernel)) rfl
theorem m_544 : Cond.instanceMethod ⟨"IharaZeta$EdgePolynomial","makeFrom","([J)V"⟩ ∈ tbG := tbG_in (List.mem_of_getElem? (i := 544) (by decide +kernel)) rfl
theorem m_545 : Cond.selects "IharaZeta$EdgePolynomial" ⟨"IharaZeta$EdgePolynomial","makeFrom","([J)V"⟩ ⟨"IharaZeta$EdgePolynomial","makeFrom","([J)V"⟩ ∈ tbG := tbG_in (List.mem_of_getElem? (i := 545) (by decide +kernel)) rfl
theorem m_546 : Cond.code ⟨"IharaZeta$EdgePolynomial","makeFrom","([J)V"⟩ prog_2_method_2_code 6 (none : Option FieldType) ∈ tbG := tbG_in (List.mem_of_getElem? (i := 546) (by decide +kernel)) rfl
theorem m_547 : Cond.methodLink "IharaZetaLaw" 122 ⟨"IharaZeta","signedCoefficient","(I)J"⟩ ∈ tbG := tbG_in (List.mem_of_getElem? (i := 547) (by decide +kernel)) rfl
theorem m_548 : Cond.instanceMethod ⟨"IharaZeta","signedCoefficient","(I)J"⟩ ∈ tbG := tbG_in (List.mem_of_getElem? (i := 548) (by decide +kernel)) rfl
theorem m_549 : Cond.selects "IharaZeta" ⟨"IharaZeta","signedCoefficient","(I)J"⟩ ⟨"IharaZeta","signedCoefficient","(I)J"⟩ ∈ tbG := tbG_in (List.mem_of_getElem? (i := 549) (by decide +kernel)) rfl
theorem m_550 : Cond.code ⟨"IharaZeta","signedCoefficient","(I)J"⟩ prog_1_method_28_code 2 (some FieldType.long) ∈ tbG := tbG_in (List.mem_of_getElem? (i := 550) (by decide +kernel)) rfl
theorem m_551 : Cond.methodLink "IharaZetaLaw" 126 ⟨"IharaZeta","vertexCoefficient","(I)J"⟩ ∈ tbG := tbG_in (List.mem_of_getElem? (i := 551) (by decide +kernel)) rfl
theorem m_552 : Cond.instanceMethod ⟨"IharaZeta","vertexCoefficient","(I)J"⟩ ∈ tbG := tbG_in (List.mem_of_getElem? (i := 552) (by decide +kernel)) rfl
theorem m_553 : Cond.selects "IharaZeta" ⟨"IharaZeta","vertexCoefficient","(I)J"⟩ ⟨"IharaZeta","vertexCoefficient","(I)J"⟩ ∈ tbG := tbG_in (List.mem_of_getElem? (i := 553) (by decide +kernel)) rfl
theorem m_554 : Cond.code ⟨"IharaZeta","vertexCoefficient","(I)J"⟩ prog_1_method_29_code 2 (some FieldType.long) ∈ tbG := tbG_in (List.mem_of_getElem? (i := 554) (by decide +kernel)) rfl
theorem m_555 : Cond.methodLink "IharaZeta" 209 ⟨"IharaZeta$VertexPolynomial","makeFrom","(LIharaZeta$Graph;)V"⟩ ∈ tbG := tbG_in (List.mem_of_getElem? (i := 555) (by decide +kernel)) rfl
theorem m_556 : Cond.instanceMethod ⟨"IharaZeta$VertexPolynomial","makeFrom","(LIharaZeta$Graph;)V"⟩ ∈ tbG := tbG_in (List.mem_of_getElem? (i := 556) (by decide +kernel)) rfl
theorem m_557 : Cond.selects "IharaZeta$VertexPolynomial" ⟨"IharaZeta$VertexPolynomial","makeFrom","(LIharaZeta$Graph;)V"⟩ ⟨"IharaZeta$VertexPolynomial","makeFrom","(LIharaZeta$Graph;)V"⟩ ∈ tbG := tbG_in (List.mem_of_getElem? (i := 557) (by decide +kernel)) rfl
theorem m_558 : Cond.code ⟨"IharaZeta$VertexPolynomial","makeFrom","(LIharaZeta$Graph;)V"⟩ prog_8_method_2_code 4 (none : Option FieldType) ∈ tbG := tbG_in (List.mem_of_getElem? (i := 558) (by decide +kernel)) rfl
theorem m_559 : Cond.methodLink "IharaZeta$VertexPolynomial" 20 ⟨"java/util/Arrays","fill","([JJ)V"⟩ ∈ tbG := tbG_in (List.mem_of_getElem? (i := 559) (by decide +kernel)) rfl
theorem m_560 : Cond.methodLink "IharaZeta$VertexPolynomial" 32 ⟨"IharaZeta$VertexPolynomial","makeMinor","(LIharaZeta$Graph;I)V"⟩ ∈ tbG := tbG_in (List.mem_of_getElem? (i := 560) (by decide +kernel)) rfl
theorem m_562 : Cond.instanceMethod ⟨"IharaZeta$VertexPolynomial","makeMinor","(LIharaZeta$Graph;I)V"⟩ ∈ tbG := tbG_in (List.mem_of_getElem? (i := 562) (by decide +kernel)) rfl
theorem m_563 : Cond.code ⟨"IharaZeta$VertexPolynomial","makeMinor","(LIharaZeta$Graph;I)V"⟩ prog_8_method_4_code 8 (none : Option FieldType) ∈ tbG := tbG_in (List.mem_of_getElem? (i := 563) (by decide +kernel)) rfl
theorem m_564 : Cond.methodLink "IharaZeta$VertexPolynomial" 42 ⟨"java/lang/Integer","bitCount","(I)I"⟩ ∈ tbG := tbG_in (List.mem_of_getElem? (i := 564) (by decide +kernel)) rfl
theorem m_565 : Cond.static ⟨"java/lang/Integer","bitCount","(I)I"⟩ ∈ tbG := tbG_in (List.mem_of_getElem? (i := 565) (by decide +kernel)) rfl
theorem m_566 : Cond.code ⟨"java/lang/Integer","bitCount","(I)I"⟩ prog_12_method_49_code 1 (some FieldType.int) ∈ tbG := tbG_in (List.mem_of_getElem? (i := 566) (by decide +kernel)) rfl
theorem m_567 : Cond.constant "java/lang/Integer" 265 (1431655765 : Int32) ∈ tbG := tbG_in (List.mem_of_getElem? (i := 567) (by decide +kernel)) rfl
theorem m_568 : Cond.constant "java/lang/Integer" 266 (858993459 : Int32) ∈ tbG := tbG_in (List.mem_of_getElem? (i := 568) (by decide +kernel)) rfl
theorem m_569 : Cond.constant "java/lang/Integer" 267 (252645135 : Int32) ∈ tbG := tbG_in (List.mem_of_getElem? (i := 569) (by decide +kernel)) rfl
theorem m_570 : Cond.methodLink "IharaZeta$VertexPolynomial" 48 ⟨"IharaZeta$VertexPolynomial","addProduct","(LIharaZeta$Graph;IIJ[J[J)V"⟩ ∈ tbG := tbG_in (List.mem_of_getElem? (i := 570) (by decide +kernel)) rfl
theorem m_571 : Cond.static ⟨"IharaZeta$VertexPolynomial","addProduct","(LIharaZeta$Graph;IIJ[J[J)V"⟩ ∈ tbG := tbG_in (List.mem_of_getElem? (i := 571) (by decide +kernel)) rfl
theorem m_572 : Cond.code ⟨"IharaZeta$VertexPolynomial","addProduct","(LIharaZeta$Graph;IIJ[J[J)V"⟩ prog_8_method_5_code 7 (none : Option FieldType) ∈ tbG := tbG_in (List.mem_of_getElem? (i := 572) (by decide +kernel)) rfl
theorem m_573 : Cond.methodLink "IharaZeta$VertexPolynomial" 52 ⟨"IharaZeta$Graph","edgesBetween","(II)I"⟩ ∈ tbG := tbG_in (List.mem_of_getElem? (i := 573) (by decide +kernel)) rfl
theorem m_574 : Cond.instanceMethod ⟨"IharaZeta$Graph","edgesBetween","(II)I"⟩ ∈ tbG := tbG_in (List.mem_of_getElem? (i := 574) (by decide +kernel)) rfl
theorem m_575 : Cond.selects "IharaZeta$Graph" ⟨"IharaZeta$Graph","edgesBetween","(II)I"⟩ ⟨"IharaZeta$Graph","edgesBetween","(II)I"⟩ ∈ tbG := tbG_in (List.mem_of_getElem? (i := 575) (by decide +kernel)) rfl
theorem m_576 : Cond.code ⟨"IharaZeta$Graph","edgesBetween","(II)I"⟩ prog_4_method_14_code 7 (some FieldType.int) ∈ tbG := tbG_in (List.mem_of_getElem? (i := 576) (by decide +kernel)) rfl
theorem m_577 : Cond.methodLink "IharaZeta$VertexPolynomial" 56 ⟨"IharaZeta$VertexPolynomial","addShifted","([JIJ[J)V"⟩ ∈ tbG := tbG_in (List.mem_of_getElem? (i := 577) (by decide +kernel)) rfl
theorem m_578 : Cond.static ⟨"IharaZeta$VertexPolynomial","addShifted","([JIJ[J)V"⟩ ∈ tbG := tbG_in (List.mem_of_getElem? (i := 578) (by decide +kernel)) rfl
theorem m_579 : Cond.code ⟨"IharaZeta$VertexPolynomial","addShifted","([JIJ[J)V"⟩ prog_8_method_6_code 6 (none : Option FieldType) ∈ tbG := tbG_in (List.mem_of_getElem? (i := 579) (by decide +kernel)) rfl
theorem m_580 : Cond.methodLink "IharaZeta$VertexPolynomial" 60 ⟨"IharaZeta$Graph","edgesAt","(I)I"⟩ ∈ tbG := tbG_in (List.mem_of_getElem? (i := 580) (by decide +kernel)) rfl
theorem m_581 : Cond.methodLink "IharaZeta$VertexPolynomial" 36 ⟨"java/lang/System","arraycopy","(Ljava/lang/Object;ILjava/lang/Object;II)V"⟩ ∈ tbG := tbG_in (List.mem_of_getElem? (i := 581) (by decide +kernel)) rfl
theorem m_582 : Cond.static ⟨"java/lang/System","arraycopy","(Ljava/lang/Object;ILjava/lang/Object;II)V"⟩ ∈ tbG := tbG_in (List.mem_of_getElem? (i := 582) (by decide +kernel)) rfl
theorem m_583 : Cond.native ⟨"java/lang/System","arraycopy","(Ljava/lang/Object;ILjava/lang/Object;II)V"⟩ ∈ tbG := tbG_in (List.mem_of_getElem? (i := 583) (by decide +kernel)) rfl
theorem m_584 : Cond.methodLink "IharaZetaLaw" 130 ⟨"IharaZeta","bassCoefficient","(I)J"⟩ ∈ tbG := tbG_in (List.mem_of_getElem? (i := 584) (by decide +kernel)) rfl
theorem m_585 : Cond.instanceMethod ⟨"IharaZeta","bassCoefficient","(I)J"⟩ ∈ tbG := tbG_in (List.mem_of_getElem? (i := 585) (by decide +kernel)) rfl
theorem m_586 : Cond.selects "IharaZeta" ⟨"IharaZeta","bassCoefficient","(I)J"⟩ ⟨"IharaZeta","bassCoefficient","(I)J"⟩ ∈ tbG := tbG_in (List.mem_of_getElem? (i := 586) (by decide +kernel)) rfl
theorem m_587 : Cond.code ⟨"IharaZeta","bassCoefficient","(I)J"⟩ prog_1_method_30_code 2 (some FieldType.long) ∈ tbG := tbG_in (List.mem_of_getElem? (i := 587) (by decide +kernel)) rfl
theorem m_588 : Cond.methodLink "IharaZeta" 212 ⟨"IharaZeta$VertexPolynomial","turnIntoBass","(I)V"⟩ ∈ tbG := tbG_in (List.mem_of_getElem? (i := 588) (by decide +kernel)) rfl
theorem m_589 : Cond.instanceMethod ⟨"IharaZeta$VertexPolynomial","turnIntoBass","(I)V"⟩ ∈ tbG := tbG_in (List.mem_of_getElem? (i := 589) (by decide +kernel)) rfl
theorem m_590 : Cond.selects "IharaZeta$VertexPolynomial" ⟨"IharaZeta$VertexPolynomial","turnIntoBass","(I)V"⟩ ⟨"IharaZeta$VertexPolynomial","turnIntoBass","(I)V"⟩ ∈ tbG := tbG_in (List.mem_of_getElem? (i := 590) (by decide +kernel)) rfl
theorem m_591 : Cond.code ⟨"IharaZeta$VertexPolynomial","turnIntoBass","(I)V"⟩ prog_8_method_3_code 4 (none : Option FieldType) ∈ tbG := tbG_in (List.mem_of_getElem? (i := 591) (by decide +kernel)) rfl
theorem m_592 : Cond.methodLink "IharaZetaLaw" 134 ⟨"IharaZeta","zetaCoefficient","(I)J"⟩ ∈ tbG := tbG_in (List.mem_of_getElem? (i := 592) (by decide +kernel)) rfl
theorem m_593 : Cond.instanceMethod ⟨"IharaZeta","zetaCoefficient","(I)J"⟩ ∈ tbG := tbG_in (List.mem_of_getElem? (i := 593) (by decide +kernel)) rfl
theorem m_594 : Cond.selects "IharaZeta" ⟨"IharaZeta","zetaCoefficient","(I)J"⟩ ⟨"IharaZeta","zetaCoefficient","(I)J"⟩ ∈ tbG := tbG_in (List.mem_of_getElem? (i := 594) (by decide +kernel)) rfl
theorem m_595 : Cond.code ⟨"IharaZeta","zetaCoefficient","(I)J"⟩ prog_1_method_31_code 2 (some FieldType.long) ∈ tbG := tbG_in (List.mem_of_getElem? (i := 595) (by decide +kernel)) rfl
theorem m_596 : Cond.methodLink "IharaZeta" 215 ⟨"IharaZeta$EdgePolynomial","inverseCoefficient","(I)J"⟩ ∈ tbG := tbG_in (List.mem_of_getElem? (i := 596) (by decide +kernel)) rfl
theorem m_597 : Cond.instanceMethod ⟨"IharaZeta$EdgePolynomial","inverseCoefficient","(I)J"⟩ ∈ tbG := tbG_in (List.mem_of_getElem? (i := 597) (by decide +kernel)) rfl
theorem m_598 : Cond.selects "IharaZeta$EdgePolynomial" ⟨"IharaZeta$EdgePolynomial","inverseCoefficient","(I)J"⟩ ⟨"IharaZeta$EdgePolynomial","inverseCoefficient","(I)J"⟩ ∈ tbG := tbG_in (List.mem_of_getElem? (i := 598) (by decide +kernel)) rfl
theorem m_599 : Cond.code ⟨"IharaZeta$EdgePolynomial","inverseCoefficient","(I)J"⟩ prog_2_method_3_code 6 (some FieldType.long) ∈ tbG := tbG_in (List.mem_of_getElem? (i := 599) (by decide +kernel)) rfl
theorem m_600 : Cond.methodLink "IharaZetaLaw" 138 ⟨"IharaZeta","edgeValue","(I)J"⟩ ∈ tbG := tbG_in (List.mem_of_getElem? (i := 600) (by decide +kernel)) rfl
theorem m_601 : Cond.instanceMethod ⟨"IharaZeta","edgeValue","(I)J"⟩ ∈ tbG := tbG_in (List.mem_of_getElem? (i := 601) (by decide +kernel)) rfl
theorem m_602 : Cond.selects "IharaZeta" ⟨"IharaZeta","edgeValue","(I)J"⟩ ⟨"IharaZeta","edgeValue","(I)J"⟩ ∈ tbG := tbG_in (List.mem_of_getElem? (i := 602) (by decide +kernel)) rfl
theorem m_603 : Cond.code ⟨"IharaZeta","edgeValue","(I)J"⟩ prog_1_method_32_code 2 (some FieldType.long) ∈ tbG := tbG_in (List.mem_of_getElem? (i := 603) (by decide +kernel)) rfl
theorem m_604 : Cond.methodLink "IharaZeta" 219 ⟨"IharaZeta$EdgePolynomial","valueAt","(J)J"⟩ ∈ tbG := tbG_in (List.mem_of_getElem? (i := 604) (by decide +kernel)) rfl
theorem m_605 : Cond.instanceMethod ⟨"IharaZeta$EdgePolynomial","valueAt","(J)J"⟩ ∈ tbG := tbG_in (List.mem_of_getElem? (i := 605) (by decide +kernel)) rfl
theorem m_606 : Cond.selects "IharaZeta$EdgePolynomial" ⟨"IharaZeta$EdgePolynomial","valueAt","(J)J"⟩ ⟨"IharaZeta$EdgePolynomial","valueAt","(J)J"⟩ ∈ tbG := tbG_in (List.mem_of_getElem? (i := 606) (by decide +kernel)) rfl
theorem m_607 : Cond.code ⟨"IharaZeta$EdgePolynomial","valueAt","(J)J"⟩ prog_2_method_4_code 6 (some FieldType.long) ∈ tbG := tbG_in (List.mem_of_getElem? (i := 607) (by decide +kernel)) rfl
theorem m_608 : Cond.methodLink "IharaZetaLaw" 142 ⟨"IharaZeta","taylorAtOne","(I)J"⟩ ∈ tbG := tbG_in (List.mem_of_getElem? (i := 608) (by decide +kernel)) rfl
theorem m_609 : Cond.instanceMethod ⟨"IharaZeta","taylorAtOne","(I)J"⟩ ∈ tbG := tbG_in (List.mem_of_getElem? (i := 609) (by decide +kernel)) rfl
theorem m_610 : Cond.selects "IharaZeta" ⟨"IharaZeta","taylorAtOne","(I)J"⟩ ⟨"IharaZeta","taylorAtOne","(I)J"⟩ ∈ tbG := tbG_in (List.mem_of_getElem? (i := 610) (by decide +kernel)) rfl
theorem m_611 : Cond.code ⟨"IharaZeta","taylorAtOne","(I)J"⟩ prog_1_method_33_code 2 (some FieldType.long) ∈ tbG := tbG_in (List.mem_of_getElem? (i := 611) (by decide +kernel)) rfl
theorem m_612 : Cond.methodLink "IharaZeta" 223 ⟨"IharaZeta$EdgePolynomial","coefficientAroundOne","(I)J"⟩ ∈ tbG := tbG_in (List.mem_of_getElem? (i := 612) (by decide +kernel)) rfl
theorem m_613 : Cond.instanceMethod ⟨"IharaZeta$EdgePolynomial","coefficientAroundOne","(I)J"⟩ ∈ tbG := tbG_in (List.mem_of_getElem? (i := 613) (by decide +kernel)) rfl
theorem m_614 : Cond.selects "IharaZeta$EdgePolynomial" ⟨"IharaZeta$EdgePolynomial","coefficientAroundOne","(I)J"⟩ ⟨"IharaZeta$EdgePolynomial","coefficientAroundOne","(I)J"⟩ ∈ tbG := tbG_in (List.mem_of_getElem? (i := 614) (by decide +kernel)) rfl
theorem m_615 : Cond.code ⟨"IharaZeta$EdgePolynomial","coefficientAroundOne","(I)J"⟩ prog_2_method_5_code 4 (some FieldType.long) ∈ tbG := tbG_in (List.mem_of_getElem? (i := 615) (by decide +kernel)) rfl
theorem m_616 : Cond.methodLink "IharaZeta$EdgePolynomial" 18 ⟨"java/lang/System","arraycopy","(Ljava/lang/Object;ILjava/lang/Object;II)V"⟩ ∈ tbG := tbG_in (List.mem_of_getElem? (i := 616) (by decide +kernel)) rfl
theorem m_617 : Cond.methodLink "IharaZetaLaw" 146 ⟨"IharaZeta","edgeDegree","()I"⟩ ∈ tbG := tbG_in (List.mem_of_getElem? (i := 617) (by decide +kernel)) rfl
theorem m_618 : Cond.instanceMethod ⟨"IharaZeta","edgeDegree","()I"⟩ ∈ tbG := tbG_in (List.mem_of_getElem? (i := 618) (by decide +kernel)) rfl
theorem m_619 : Cond.selects "IharaZeta" ⟨"IharaZeta","edgeDegree","()I"⟩ ⟨"IharaZeta","edgeDegree","()I"⟩ ∈ tbG := tbG_in (List.mem_of_getElem? (i := 619) (by decide +kernel)) rfl
theorem m_620 : Cond.code ⟨"IharaZeta","edgeDegree","()I"⟩ prog_1_method_34_code 1 (some FieldType.int) ∈ tbG := tbG_in (List.mem_of_getElem? (i := 620) (by decide +kernel)) rfl
theorem m_621 : Cond.methodLink "IharaZeta" 226 ⟨"IharaZeta$EdgePolynomial","highestPower","()I"⟩ ∈ tbG := tbG_in (List.mem_of_getElem? (i := 621) (by decide +kernel)) rfl
theorem m_622 : Cond.instanceMethod ⟨"IharaZeta$EdgePolynomial","highestPower","()I"⟩ ∈ tbG := tbG_in (List.mem_of_getElem? (i := 622) (by decide +kernel)) rfl
theorem m_623 : Cond.selects "IharaZeta$EdgePolynomial" ⟨"IharaZeta$EdgePolynomial","highestPower","()I"⟩ ⟨"IharaZeta$EdgePolynomial","highestPower","()I"⟩ ∈ tbG := tbG_in (List.mem_of_getElem? (i := 623) (by decide +kernel)) rfl
theorem m_624 : Cond.code ⟨"IharaZeta$EdgePolynomial","highestPower","()I"⟩ prog_2_method_6_code 2 (some FieldType.int) ∈ tbG := tbG_in (List.mem_of_getElem? (i := 624) (by decide +kernel)) rfl
theorem m_625 : Cond.methodLink "IharaZetaLaw" 150 ⟨"IharaZeta","spanningTrees","()I"⟩ ∈ tbG := tbG_in (List.mem_of_getElem? (i := 625) (by decide +kernel)) rfl
theorem m_626 : Cond.instanceMethod ⟨"IharaZeta","spanningTrees","()I"⟩ ∈ tbG := tbG_in (List.mem_of_getElem? (i := 626) (by decide +kernel)) rfl
theorem m_627 : Cond.selects "IharaZeta" ⟨"IharaZeta","spanningTrees","()I"⟩ ⟨"IharaZeta","spanningTrees","()I"⟩ ∈ tbG := tbG_in (List.mem_of_getElem? (i := 627) (by decide +kernel)) rfl
theorem m_628 : Cond.code ⟨"IharaZeta","spanningTrees","()I"⟩ prog_1_method_35_code 1 (some FieldType.int) ∈ tbG := tbG_in (List.mem_of_getElem? (i := 628) (by decide +kernel)) rfl
theorem m_629 : Cond.methodLink "IharaZeta" 230 ⟨"IharaZeta$Grouping","countTrees","(LIharaZeta$Graph;)I"⟩ ∈ tbG := tbG_in (List.mem_of_getElem? (i := 629) (by decide +kernel)) rfl
theorem m_630 : Cond.instanceMethod ⟨"IharaZeta$Grouping","countTrees","(LIharaZeta$Graph;)I"⟩ ∈ tbG := tbG_in (List.mem_of_getElem? (i := 630) (by decide +kernel)) rfl
theorem m_631 : Cond.selects "IharaZeta$Grouping" ⟨"IharaZeta$Grouping","countTrees","(LIharaZeta$Graph;)I"⟩ ⟨"IharaZeta$Grouping","countTrees","(LIharaZeta$Graph;)I"⟩ ∈ tbG := tbG_in (List.mem_of_getElem? (i := 631) (by decide +kernel)) rfl
theorem m_632 : Cond.code ⟨"IharaZeta$Grouping","countTrees","(LIharaZeta$Graph;)I"⟩ prog_5_method_4_code 4 (some FieldType.int) ∈ tbG := tbG_in (List.mem_of_getElem? (i := 632) (by decide +kernel)) rfl
theorem m_633 : Cond.methodLink "IharaZeta$Grouping" 38 ⟨"java/lang/Integer","bitCount","(I)I"⟩ ∈ tbG := tbG_in (List.mem_of_getElem? (i := 633) (by decide +kernel)) rfl
theorem m_634 : Cond.methodLink "IharaZeta$Grouping" 44 ⟨"IharaZeta$Grouping","isForest","(LIharaZeta$Graph;I)Z"⟩ ∈ tbG := tbG_in (List.mem_of_getElem? (i := 634) (by decide +kernel)) rfl
theorem m_636 : Cond.instanceMethod ⟨"IharaZeta$Grouping","isForest","(LIharaZeta$Graph;I)Z"⟩ ∈ tbG := tbG_in (List.mem_of_getElem? (i := 636) (by decide +kernel)) rfl
theorem m_637 : Cond.code ⟨"IharaZeta$Grouping","isForest","(LIharaZeta$Graph;I)Z"⟩ prog_5_method_5_code 5 (some FieldType.boolean) ∈ tbG := tbG_in (List.mem_of_getElem? (i := 637) (by decide +kernel)) rfl
theorem m_638 : Cond.classLink "IharaZetaLaw" 10 "IharaZetaModel" ∈ tbG := tbG_in (List.mem_of_getElem? (i := 638) (by decide +kernel)) rfl
theorem m_639 : Cond.instantiable "IharaZetaModel" 22 ∈ tbG := tbG_in (List.mem_of_getElem? (i := 639) (by decide +kernel)) rfl
theorem m_640 : Cond.methodLink "IharaZetaLaw" 12 ⟨"IharaZetaModel","<init>","()V"⟩ ∈ tbG := tbG_in (List.mem_of_getElem? (i := 640) (by decide +kernel)) rfl
theorem m_641 : Cond.instanceMethod ⟨"IharaZetaModel","<init>","()V"⟩ ∈ tbG := tbG_in (List.mem_of_getElem? (i := 641) (by decide +kernel)) rfl
theorem m_642 : Cond.code ⟨"IharaZetaModel","<init>","()V"⟩ prog_11_method_1_code 1 (none : Option FieldType) ∈ tbG := tbG_in (List.mem_of_getElem? (i := 642) (by decide +kernel)) rfl
theorem m_643 : Cond.methodLink "IharaZetaModel" 1 ⟨"java/lang/Object","<init>","()V"⟩ ∈ tbG := tbG_in (List.mem_of_getElem? (i := 643) (by decide +kernel)) rfl
theorem m_644 : Cond.fieldLink "IharaZetaModel" 7 "IharaZetaModel" "now" "[I" ∈ tbG := tbG_in (List.mem_of_getElem? (i := 644) (by decide +kernel)) rfl
theorem m_645 : Cond.fieldLink "IharaZetaModel" 13 "IharaZetaModel" "read" "[I" ∈ tbG := tbG_in (List.mem_of_getElem? (i := 645) (by decide +kernel)) rfl
theorem m_646 : Cond.fieldLink "IharaZetaModel" 16 "IharaZetaModel" "past" "[I" ∈ tbG := tbG_in (List.mem_of_getElem? (i := 646) (by decide +kernel)) rfl
theorem m_647 : Cond.fieldLink "IharaZetaModel" 69 "IharaZetaModel" "saved" "I" ∈ tbG := tbG_in (List.mem_of_getElem? (i := 647) (by decide +kernel)) rfl
theorem m_648 : Cond.fieldLink "IharaZetaModel" 19 "IharaZetaModel" "text" "[I" ∈ tbG := tbG_in (List.mem_of_getElem? (i := 648) (by decide +kernel)) rfl
theorem m_649 : Cond.fieldLink "IharaZetaModel" 83 "IharaZetaModel" "letters" "I" ∈ tbG := tbG_in (List.mem_of_getElem? (i := 649) (by decide +kernel)) rfl
theorem m_650 : Cond.fieldLink "IharaZetaModel" 86 "IharaZetaModel" "stage" "I" ∈ tbG := tbG_in (List.mem_of_getElem? (i := 650) (by decide +kernel)) rfl
theorem m_651 : Cond.fieldLink "IharaZetaModel" 22 "IharaZetaModel" "part" "[I" ∈ tbG := tbG_in (List.mem_of_getElem? (i := 651) (by decide +kernel)) rfl
theorem m_652 : Cond.fieldLink "IharaZetaModel" 117 "IharaZetaModel" "size" "I" ∈ tbG := tbG_in (List.mem_of_getElem? (i := 652) (by decide +kernel)) rfl
theorem m_653 : Cond.fieldLink "IharaZetaModel" 25 "IharaZetaModel" "matrix" "[J" ∈ tbG := tbG_in (List.mem_of_getElem? (i := 653) (by decide +kernel)) rfl
theorem m_654 : Cond.fieldLink "IharaZetaModel" 29 "IharaZetaModel" "power" "[J" ∈ tbG := tbG_in (List.mem_of_getElem? (i := 654) (by decide +kernel)) rfl
theorem m_655 : Cond.fieldLink "IharaZetaModel" 32 "IharaZetaModel" "product" "[J" ∈ tbG := tbG_in (List.mem_of_getElem? (i := 655) (by decide +kernel)) rfl
theorem m_656 : Cond.fieldLink "IharaZetaModel" 35 "IharaZetaModel" "poly" "[J" ∈ tbG := tbG_in (List.mem_of_getElem? (i := 656) (by decide +kernel)) rfl
theorem m_657 : Cond.fieldLink "IharaZetaModel" 38 "IharaZetaModel" "old" "[J" ∈ tbG := tbG_in (List.mem_of_getElem? (i := 657) (by decide +kernel)) rfl
theorem m_658 : Cond.fieldLink "IharaZetaModel" 41 "IharaZetaModel" "step" "[J" ∈ tbG := tbG_in (List.mem_of_getElem? (i := 658) (by decide +kernel)) rfl
theorem m_659 : Cond.fieldLink "IharaZetaModel" 44 "IharaZetaModel" "column" "[J" ∈ tbG := tbG_in (List.mem_of_getElem? (i := 659) (by decide +kernel)) rfl
theorem m_660 : Cond.fieldLink "IharaZetaModel" 47 "IharaZetaModel" "moved" "[J" ∈ tbG := tbG_in (List.mem_of_getElem? (i := 660) (by decide +kernel)) rfl
theorem m_661 : Cond.fieldLink "IharaZetaModel" 50 "IharaZetaModel" "traces" "[J" ∈ tbG := tbG_in (List.mem_of_getElem? (i := 661) (by decide +kernel)) rfl
theorem m_662 : Cond.fieldLink "IharaZetaModel" 53 "IharaZetaModel" "signed" "[J" ∈ tbG := tbG_in (List.mem_of_getElem? (i := 662) (by decide +kernel)) rfl
theorem m_663 : Cond.fieldLink "IharaZetaModel" 56 "IharaZetaModel" "plus" "[J" ∈ tbG := tbG_in (List.mem_of_getElem? (i := 663) (by decide +kernel)) rfl
theorem m_664 : Cond.fieldLink "IharaZetaModel" 59 "IharaZetaModel" "minus" "[J" ∈ tbG := tbG_in (List.mem_of_getElem? (i := 664) (by decide +kernel)) rfl
theorem m_665 : Cond.fieldLink "IharaZetaModel" 62 "IharaZetaModel" "walk" "[I" ∈ tbG := tbG_in (List.mem_of_getElem? (i := 665) (by decide +kernel)) rfl
theorem m_666 : Cond.laysFinal "IharaZetaModel" "IharaZetaModel" "now" "[I" ∈ tbG := tbG_in (List.mem_of_getElem? (i := 666) (by decide +kernel)) rfl
theorem m_668 : Cond.laysFinal "IharaZetaModel" "IharaZetaModel" "read" "[I" ∈ tbG := tbG_in (List.mem_of_getElem? (i := 668) (by decide +kernel)) rfl
theorem m_670 : Cond.laysFinal "IharaZetaModel" "IharaZetaModel" "past" "[I" ∈ tbG := tbG_in (List.mem_of_getElem? (i := 670) (by decide +kernel)) rfl
theorem m_672 : Cond.lays "IharaZetaModel" "IharaZetaModel" "saved" "I" ∈ tbG := tbG_in (List.mem_of_getElem? (i := 672) (by decide +kernel)) rfl
theorem m_674 : Cond.laysFinal "IharaZetaModel" "IharaZetaModel" "text" "[I" ∈ tbG := tbG_in (List.mem_of_getElem? (i := 674) (by decide +kernel)) rfl
theorem m_676 : Cond.lays "IharaZetaModel" "IharaZetaModel" "letters" "I" ∈ tbG := tbG_in (List.mem_of_getElem? (i := 676) (by decide +kernel)) rfl
theorem m_678 : Cond.lays "IharaZetaModel" "IharaZetaModel" "stage" "I" ∈ tbG := tbG_in (List.mem_of_getElem? (i := 678) (by decide +kernel)) rfl
theorem m_680 : Cond.laysFinal "IharaZetaModel" "IharaZetaModel" "part" "[I" ∈ tbG := tbG_in (List.mem_of_getElem? (i := 680) (by decide +kernel)) rfl
theorem m_682 : Cond.lays "IharaZetaModel" "IharaZetaModel" "size" "I" ∈ tbG := tbG_in (List.mem_of_getElem? (i := 682) (by decide +kernel)) rfl
theorem m_684 : Cond.laysFinal "IharaZetaModel" "IharaZetaModel" "matrix" "[J" ∈ tbG := tbG_in (List.mem_of_getElem? (i := 684) (by decide +kernel)) rfl
theorem m_686 : Cond.laysFinal "IharaZetaModel" "IharaZetaModel" "power" "[J" ∈ tbG := tbG_in (List.mem_of_getElem? (i := 686) (by decide +kernel)) rfl
theorem m_688 : Cond.laysFinal "IharaZetaModel" "IharaZetaModel" "product" "[J" ∈ tbG := tbG_in (List.mem_of_getElem? (i := 688) (by decide +kernel)) rfl
theorem m_690 : Cond.laysFinal "IharaZetaModel" "IharaZetaModel" "poly" "[J" ∈ tbG := tbG_in (List.mem_of_getElem? (i := 690) (by decide +kernel)) rfl
theorem m_692 : Cond.laysFinal "IharaZetaModel" "IharaZetaModel" "old" "[J" ∈ tbG := tbG_in (List.mem_of_getElem? (i := 692) (by decide +kernel)) rfl
theorem m_694 : Cond.laysFinal "IharaZetaModel" "IharaZetaModel" "step" "[J" ∈ tbG := tbG_in (List.mem_of_getElem? (i := 694) (by decide +kernel)) rfl
theorem m_696 : Cond.laysFinal "IharaZetaModel" "IharaZetaModel" "column" "[J" ∈ tbG := tbG_in (List.mem_of_getElem? (i := 696) (by decide +kernel)) rfl
theorem m_698 : Cond.laysFinal "IharaZetaModel" "IharaZetaModel" "moved" "[J" ∈ tbG := tbG_in (List.mem_of_getElem? (i := 698) (by decide +kernel)) rfl
theorem m_700 : Cond.laysFinal "IharaZetaModel" "IharaZetaModel" "traces" "[J" ∈ tbG := tbG_in (List.mem_of_getElem? (i := 700) (by decide +kernel)) rfl
theorem m_702 : Cond.laysFinal "IharaZetaModel" "IharaZetaModel" "signed" "[J" ∈ tbG := tbG_in (List.mem_of_getElem? (i := 702) (by decide +kernel)) rfl
theorem m_704 : Cond.laysFinal "IharaZetaModel" "IharaZetaModel" "plus" "[J" ∈ tbG := tbG_in (List.mem_of_getElem? (i := 704) (by decide +kernel)) rfl
theorem m_706 : Cond.laysFinal "IharaZetaModel" "IharaZetaModel" "minus" "[J" ∈ tbG := tbG_in (List.mem_of_getElem? (i := 706) (by decide +kernel)) rfl
theorem m_708 : Cond.laysFinal "IharaZetaModel" "IharaZetaModel" "walk" "[I" ∈ tbG := tbG_in (List.mem_of_getElem? (i := 708) (by decide +kernel)) rfl
theorem m_711 : Cond.methodLink "IharaZetaLaw" 17 ⟨"IharaZetaModel","configure","(I)I"⟩ ∈ tbG := tbG_in (List.mem_of_getElem? (i := 711) (by decide +kernel)) rfl
theorem m_712 : Cond.instanceMethod ⟨"IharaZetaModel","configure","(I)I"⟩ ∈ tbG := tbG_in (List.mem_of_getElem? (i := 712) (by decide +kernel)) rfl
theorem m_713 : Cond.selects "IharaZetaModel" ⟨"IharaZetaModel","configure","(I)I"⟩ ⟨"IharaZetaModel","configure","(I)I"⟩ ∈ tbG := tbG_in (List.mem_of_getElem? (i := 713) (by decide +kernel)) rfl
theorem m_714 : Cond.code ⟨"IharaZetaModel","configure","(I)I"⟩ prog_11_method_8_code 3 (some FieldType.int) ∈ tbG := tbG_in (List.mem_of_getElem? (i := 714) (by decide +kernel)) rfl
theorem m_715 : Cond.methodLink "IharaZetaModel" 65 ⟨"IharaZetaModel","in","(III)Z"⟩ ∈ tbG := tbG_in (List.mem_of_getElem? (i := 715) (by decide +kernel)) rfl
theorem m_716 : Cond.static ⟨"IharaZetaModel","in","(III)Z"⟩ ∈ tbG := tbG_in (List.mem_of_getElem? (i := 716) (by decide +kernel)) rfl
theorem m_717 : Cond.code ⟨"IharaZetaModel","in","(III)Z"⟩ prog_11_method_3_code 3 (some FieldType.boolean) ∈ tbG := tbG_in (List.mem_of_getElem? (i := 717) (by decide +kernel)) rfl
theorem m_718 : Cond.methodLink "IharaZetaModel" 73 ⟨"IharaZetaModel","save","()V"⟩ ∈ tbG := tbG_in (List.mem_of_getElem? (i := 718) (by decide +kernel)) rfl
theorem m_720 : Cond.instanceMethod ⟨"IharaZetaModel","save","()V"⟩ ∈ tbG := tbG_in (List.mem_of_getElem? (i := 720) (by decide +kernel)) rfl
theorem m_721 : Cond.code ⟨"IharaZetaModel","save","()V"⟩ prog_11_method_7_code 2 (none : Option FieldType) ∈ tbG := tbG_in (List.mem_of_getElem? (i := 721) (by decide +kernel)) rfl
theorem m_722 : Cond.methodLink "IharaZetaLaw" 22 ⟨"IharaZetaModel","addEdge","(III)I"⟩ ∈ tbG := tbG_in (List.mem_of_getElem? (i := 722) (by decide +kernel)) rfl
theorem m_723 : Cond.instanceMethod ⟨"IharaZetaModel","addEdge","(III)I"⟩ ∈ tbG := tbG_in (List.mem_of_getElem? (i := 723) (by decide +kernel)) rfl
theorem m_724 : Cond.selects "IharaZetaModel" ⟨"IharaZetaModel","addEdge","(III)I"⟩ ⟨"IharaZetaModel","addEdge","(III)I"⟩ ∈ tbG := tbG_in (List.mem_of_getElem? (i := 724) (by decide +kernel)) rfl
theorem m_725 : Cond.code ⟨"IharaZetaModel","addEdge","(III)I"⟩ prog_11_method_9_code 5 (some FieldType.int) ∈ tbG := tbG_in (List.mem_of_getElem? (i := 725) (by decide +kernel)) rfl
theorem m_726 : Cond.methodLink "IharaZetaModel" 76 ⟨"IharaZetaModel","isVertex","(I)Z"⟩ ∈ tbG := tbG_in (List.mem_of_getElem? (i := 726) (by decide +kernel)) rfl
theorem m_728 : Cond.instanceMethod ⟨"IharaZetaModel","isVertex","(I)Z"⟩ ∈ tbG := tbG_in (List.mem_of_getElem? (i := 728) (by decide +kernel)) rfl
theorem m_729 : Cond.code ⟨"IharaZetaModel","isVertex","(I)Z"⟩ prog_11_method_4_code 2 (some FieldType.boolean) ∈ tbG := tbG_in (List.mem_of_getElem? (i := 729) (by decide +kernel)) rfl
theorem m_730 : Cond.methodLink "IharaZetaLaw" 26 ⟨"IharaZetaModel","removeEdge","(I)I"⟩ ∈ tbG := tbG_in (List.mem_of_getElem? (i := 730) (by decide +kernel)) rfl
theorem m_731 : Cond.instanceMethod ⟨"IharaZetaModel","removeEdge","(I)I"⟩ ∈ tbG := tbG_in (List.mem_of_getElem? (i := 731) (by decide +kernel)) rfl
theorem m_732 : Cond.selects "IharaZetaModel" ⟨"IharaZetaModel","removeEdge","(I)I"⟩ ⟨"IharaZetaModel","removeEdge","(I)I"⟩ ∈ tbG := tbG_in (List.mem_of_getElem? (i := 732) (by decide +kernel)) rfl
theorem m_733 : Cond.code ⟨"IharaZetaModel","removeEdge","(I)I"⟩ prog_11_method_10_code 3 (some FieldType.int) ∈ tbG := tbG_in (List.mem_of_getElem? (i := 733) (by decide +kernel)) rfl
theorem m_734 : Cond.methodLink "IharaZetaModel" 80 ⟨"IharaZetaModel","isEdge","(I)Z"⟩ ∈ tbG := tbG_in (List.mem_of_getElem? (i := 734) (by decide +kernel)) rfl
theorem m_736 : Cond.instanceMethod ⟨"IharaZetaModel","isEdge","(I)Z"⟩ ∈ tbG := tbG_in (List.mem_of_getElem? (i := 736) (by decide +kernel)) rfl
theorem m_737 : Cond.code ⟨"IharaZetaModel","isEdge","(I)Z"⟩ prog_11_method_5_code 2 (some FieldType.boolean) ∈ tbG := tbG_in (List.mem_of_getElem? (i := 737) (by decide +kernel)) rfl
theorem m_738 : Cond.methodLink "IharaZetaLaw" 30 ⟨"IharaZetaModel","flipSign","(I)I"⟩ ∈ tbG := tbG_in (List.mem_of_getElem? (i := 738) (by decide +kernel)) rfl
theorem m_739 : Cond.instanceMethod ⟨"IharaZetaModel","flipSign","(I)I"⟩ ∈ tbG := tbG_in (List.mem_of_getElem? (i := 739) (by decide +kernel)) rfl
theorem m_740 : Cond.selects "IharaZetaModel" ⟨"IharaZetaModel","flipSign","(I)I"⟩ ⟨"IharaZetaModel","flipSign","(I)I"⟩ ∈ tbG := tbG_in (List.mem_of_getElem? (i := 740) (by decide +kernel)) rfl
theorem m_741 : Cond.code ⟨"IharaZetaModel","flipSign","(I)I"⟩ prog_11_method_11_code 3 (some FieldType.int) ∈ tbG := tbG_in (List.mem_of_getElem? (i := 741) (by decide +kernel)) rfl
theorem m_742 : Cond.methodLink "IharaZetaLaw" 34 ⟨"IharaZetaModel","appendCharacter","(I)I"⟩ ∈ tbG := tbG_in (List.mem_of_getElem? (i := 742) (by decide +kernel)) rfl
theorem m_743 : Cond.instanceMethod ⟨"IharaZetaModel","appendCharacter","(I)I"⟩ ∈ tbG := tbG_in (List.mem_of_getElem? (i := 743) (by decide +kernel)) rfl
theorem m_744 : Cond.selects "IharaZetaModel" ⟨"IharaZetaModel","appendCharacter","(I)I"⟩ ⟨"IharaZetaModel","appendCharacter","(I)I"⟩ ∈ tbG := tbG_in (List.mem_of_getElem? (i := 744) (by decide +kernel)) rfl
theorem m_745 : Cond.code ⟨"IharaZetaModel","appendCharacter","(I)I"⟩ prog_11_method_12_code 2 (some FieldType.int) ∈ tbG := tbG_in (List.mem_of_getElem? (i := 745) (by decide +kernel)) rfl
theorem m_746 : Cond.methodLink "IharaZetaLaw" 39 ⟨"IharaZetaModel","clearText","()I"⟩ ∈ tbG := tbG_in (List.mem_of_getElem? (i := 746) (by decide +kernel)) rfl
theorem m_747 : Cond.instanceMethod ⟨"IharaZetaModel","clearText","()I"⟩ ∈ tbG := tbG_in (List.mem_of_getElem? (i := 747) (by decide +kernel)) rfl
theorem m_748 : Cond.selects "IharaZetaModel" ⟨"IharaZetaModel","clearText","()I"⟩ ⟨"IharaZetaModel","clearText","()I"⟩ ∈ tbG := tbG_in (List.mem_of_getElem? (i := 748) (by decide +kernel)) rfl
theorem m_749 : Cond.code ⟨"IharaZetaModel","clearText","()I"⟩ prog_11_method_13_code 2 (some FieldType.int) ∈ tbG := tbG_in (List.mem_of_getElem? (i := 749) (by decide +kernel)) rfl
theorem m_750 : Cond.methodLink "IharaZetaLaw" 43 ⟨"IharaZetaModel","loadGraph","()I"⟩ ∈ tbG := tbG_in (List.mem_of_getElem? (i := 750) (by decide +kernel)) rfl
theorem m_751 : Cond.instanceMethod ⟨"IharaZetaModel","loadGraph","()I"⟩ ∈ tbG := tbG_in (List.mem_of_getElem? (i := 751) (by decide +kernel)) rfl
theorem m_752 : Cond.selects "IharaZetaModel" ⟨"IharaZetaModel","loadGraph","()I"⟩ ⟨"IharaZetaModel","loadGraph","()I"⟩ ∈ tbG := tbG_in (List.mem_of_getElem? (i := 752) (by decide +kernel)) rfl
theorem m_753 : Cond.code ⟨"IharaZetaModel","loadGraph","()I"⟩ prog_11_method_16_code 3 (some FieldType.int) ∈ tbG := tbG_in (List.mem_of_getElem? (i := 753) (by decide +kernel)) rfl
theorem m_754 : Cond.methodLink "IharaZetaModel" 92 ⟨"IharaZetaModel","reads","()I"⟩ ∈ tbG := tbG_in (List.mem_of_getElem? (i := 754) (by decide +kernel)) rfl
theorem m_756 : Cond.instanceMethod ⟨"IharaZetaModel","reads","()I"⟩ ∈ tbG := tbG_in (List.mem_of_getElem? (i := 756) (by decide +kernel)) rfl
theorem m_757 : Cond.code ⟨"IharaZetaModel","reads","()I"⟩ prog_11_method_15_code 2 (some FieldType.int) ∈ tbG := tbG_in (List.mem_of_getElem? (i := 757) (by decide +kernel)) rfl
theorem m_758 : Cond.methodLink "IharaZetaModel" 89 ⟨"IharaZetaModel","takes","(I)Z"⟩ ∈ tbG := tbG_in (List.mem_of_getElem? (i := 758) (by decide +kernel)) rfl
theorem m_760 : Cond.instanceMethod ⟨"IharaZetaModel","takes","(I)Z"⟩ ∈ tbG := tbG_in (List.mem_of_getElem? (i := 760) (by decide +kernel)) rfl
theorem m_761 : Cond.code ⟨"IharaZetaModel","takes","(I)Z"⟩ prog_11_method_14_code 3 (some FieldType.boolean) ∈ tbG := tbG_in (List.mem_of_getElem? (i := 761) (by decide +kernel)) rfl
theorem m_762 : Cond.methodLink "IharaZetaLaw" 47 ⟨"IharaZetaModel","undo","()I"⟩ ∈ tbG := tbG_in (List.mem_of_getElem? (i := 762) (by decide +kernel)) rfl
theorem m_763 : Cond.instanceMethod ⟨"IharaZetaModel","undo","()I"⟩ ∈ tbG := tbG_in (List.mem_of_getElem? (i := 763) (by decide +kernel)) rfl
theorem m_764 : Cond.selects "IharaZetaModel" ⟨"IharaZetaModel","undo","()I"⟩ ⟨"IharaZetaModel","undo","()I"⟩ ∈ tbG := tbG_in (List.mem_of_getElem? (i := 764) (by decide +kernel)) rfl
theorem m_765 : Cond.code ⟨"IharaZetaModel","undo","()I"⟩ prog_11_method_17_code 2 (some FieldType.int) ∈ tbG := tbG_in (List.mem_of_getElem? (i := 765) (by decide +kernel)) rfl
theorem m_766 : Cond.methodLink "IharaZetaLaw" 51 ⟨"IharaZetaModel","vertexCount","()I"⟩ ∈ tbG := tbG_in (List.mem_of_getElem? (i := 766) (by decide +kernel)) rfl
theorem m_767 : Cond.instanceMethod ⟨"IharaZetaModel","vertexCount","()I"⟩ ∈ tbG := tbG_in (List.mem_of_getElem? (i := 767) (by decide +kernel)) rfl
theorem m_768 : Cond.selects "IharaZetaModel" ⟨"IharaZetaModel","vertexCount","()I"⟩ ⟨"IharaZetaModel","vertexCount","()I"⟩ ∈ tbG := tbG_in (List.mem_of_getElem? (i := 768) (by decide +kernel)) rfl
theorem m_769 : Cond.code ⟨"IharaZetaModel","vertexCount","()I"⟩ prog_11_method_18_code 1 (some FieldType.int) ∈ tbG := tbG_in (List.mem_of_getElem? (i := 769) (by decide +kernel)) rfl
theorem m_770 : Cond.methodLink "IharaZetaLaw" 55 ⟨"IharaZetaModel","edgeCount","()I"⟩ ∈ tbG := tbG_in (List.mem_of_getElem? (i := 770) (by decide +kernel)) rfl
theorem m_771 : Cond.instanceMethod ⟨"IharaZetaModel","edgeCount","()I"⟩ ∈ tbG := tbG_in (List.mem_of_getElem? (i := 771) (by decide +kernel)) rfl
theorem m_772 : Cond.selects "IharaZetaModel" ⟨"IharaZetaModel","edgeCount","()I"⟩ ⟨"IharaZetaModel","edgeCount","()I"⟩ ∈ tbG := tbG_in (List.mem_of_getElem? (i := 772) (by decide +kernel)) rfl
theorem m_773 : Cond.code ⟨"IharaZetaModel","edgeCount","()I"⟩ prog_11_method_19_code 1 (some FieldType.int) ∈ tbG := tbG_in (List.mem_of_getElem? (i := 773) (by decide +kernel)) rfl
theorem m_774 : Cond.methodLink "IharaZetaLaw" 59 ⟨"IharaZetaModel","headOf","(I)I"⟩ ∈ tbG := tbG_in (List.mem_of_getElem? (i := 774) (by decide +kernel)) rfl
theorem m_775 : Cond.instanceMethod ⟨"IharaZetaModel","headOf","(I)I"⟩ ∈ tbG := tbG_in (List.mem_of_getElem? (i := 775) (by decide +kernel)) rfl
theorem m_776 : Cond.selects "IharaZetaModel" ⟨"IharaZetaModel","headOf","(I)I"⟩ ⟨"IharaZetaModel","headOf","(I)I"⟩ ∈ tbG := tbG_in (List.mem_of_getElem? (i := 776) (by decide +kernel)) rfl
theorem m_777 : Cond.code ⟨"IharaZetaModel","headOf","(I)I"⟩ prog_11_method_23_code 2 (some FieldType.int) ∈ tbG := tbG_in (List.mem_of_getElem? (i := 777) (by decide +kernel)) rfl
theorem m_778 : Cond.methodLink "IharaZetaModel" 100 ⟨"IharaZetaModel","isDirected","(I)Z"⟩ ∈ tbG := tbG_in (List.mem_of_getElem? (i := 778) (by decide +kernel)) rfl
theorem m_780 : Cond.instanceMethod ⟨"IharaZetaModel","isDirected","(I)Z"⟩ ∈ tbG := tbG_in (List.mem_of_getElem? (i := 780) (by decide +kernel)) rfl
theorem m_781 : Cond.code ⟨"IharaZetaModel","isDirected","(I)Z"⟩ prog_11_method_6_code 2 (some FieldType.boolean) ∈ tbG := tbG_in (List.mem_of_getElem? (i := 781) (by decide +kernel)) rfl
theorem m_782 : Cond.methodLink "IharaZetaModel" 96 ⟨"IharaZetaModel","endOf","(II)I"⟩ ∈ tbG := tbG_in (List.mem_of_getElem? (i := 782) (by decide +kernel)) rfl
theorem m_784 : Cond.instanceMethod ⟨"IharaZetaModel","endOf","(II)I"⟩ ∈ tbG := tbG_in (List.mem_of_getElem? (i := 784) (by decide +kernel)) rfl
theorem m_785 : Cond.code ⟨"IharaZetaModel","endOf","(II)I"⟩ prog_11_method_20_code 3 (some FieldType.int) ∈ tbG := tbG_in (List.mem_of_getElem? (i := 785) (by decide +kernel)) rfl
theorem m_786 : Cond.methodLink "IharaZetaLaw" 64 ⟨"IharaZetaModel","follows","(II)I"⟩ ∈ tbG := tbG_in (List.mem_of_getElem? (i := 786) (by decide +kernel)) rfl
theorem m_787 : Cond.instanceMethod ⟨"IharaZetaModel","follows","(II)I"⟩ ∈ tbG := tbG_in (List.mem_of_getElem? (i := 787) (by decide +kernel)) rfl
theorem m_788 : Cond.selects "IharaZetaModel" ⟨"IharaZetaModel","follows","(II)I"⟩ ⟨"IharaZetaModel","follows","(II)I"⟩ ∈ tbG := tbG_in (List.mem_of_getElem? (i := 788) (by decide +kernel)) rfl
theorem m_789 : Cond.code ⟨"IharaZetaModel","follows","(II)I"⟩ prog_11_method_24_code 3 (some FieldType.int) ∈ tbG := tbG_in (List.mem_of_getElem? (i := 789) (by decide +kernel)) rfl
theorem m_790 : Cond.methodLink "IharaZetaModel" 103 ⟨"IharaZetaModel","isNext","(II)Z"⟩ ∈ tbG := tbG_in (List.mem_of_getElem? (i := 790) (by decide +kernel)) rfl
theorem m_792 : Cond.instanceMethod ⟨"IharaZetaModel","isNext","(II)Z"⟩ ∈ tbG := tbG_in (List.mem_of_getElem? (i := 792) (by decide +kernel)) rfl
theorem m_793 : Cond.code ⟨"IharaZetaModel","isNext","(II)Z"⟩ prog_11_method_22_code 3 (some FieldType.boolean) ∈ tbG := tbG_in (List.mem_of_getElem? (i := 793) (by decide +kernel)) rfl
theorem m_794 : Cond.methodLink "IharaZetaLaw" 68 ⟨"IharaZetaModel","degree","(I)I"⟩ ∈ tbG := tbG_in (List.mem_of_getElem? (i := 794) (by decide +kernel)) rfl
theorem m_795 : Cond.instanceMethod ⟨"IharaZetaModel","degree","(I)I"⟩ ∈ tbG := tbG_in (List.mem_of_getElem? (i := 795) (by decide +kernel)) rfl
theorem m_796 : Cond.selects "IharaZetaModel" ⟨"IharaZetaModel","degree","(I)I"⟩ ⟨"IharaZetaModel","degree","(I)I"⟩ ∈ tbG := tbG_in (List.mem_of_getElem? (i := 796) (by decide +kernel)) rfl
theorem m_797 : Cond.code ⟨"IharaZetaModel","degree","(I)I"⟩ prog_11_method_26_code 2 (some FieldType.int) ∈ tbG := tbG_in (List.mem_of_getElem? (i := 797) (by decide +kernel)) rfl
theorem m_798 : Cond.methodLink "IharaZetaModel" 107 ⟨"IharaZetaModel","degreeOf","(I)I"⟩ ∈ tbG := tbG_in (List.mem_of_getElem? (i := 798) (by decide +kernel)) rfl
theorem m_800 : Cond.instanceMethod ⟨"IharaZetaModel","degreeOf","(I)I"⟩ ∈ tbG := tbG_in (List.mem_of_getElem? (i := 800) (by decide +kernel)) rfl
theorem m_801 : Cond.code ⟨"IharaZetaModel","degreeOf","(I)I"⟩ prog_11_method_25_code 4 (some FieldType.int) ∈ tbG := tbG_in (List.mem_of_getElem? (i := 801) (by decide +kernel)) rfl
theorem m_802 : Cond.methodLink "IharaZetaLaw" 72 ⟨"IharaZetaModel","components","()I"⟩ ∈ tbG := tbG_in (List.mem_of_getElem? (i := 802) (by decide +kernel)) rfl
theorem m_803 : Cond.instanceMethod ⟨"IharaZetaModel","components","()I"⟩ ∈ tbG := tbG_in (List.mem_of_getElem? (i := 803) (by decide +kernel)) rfl
theorem m_804 : Cond.selects "IharaZetaModel" ⟨"IharaZetaModel","components","()I"⟩ ⟨"IharaZetaModel","components","()I"⟩ ∈ tbG := tbG_in (List.mem_of_getElem? (i := 804) (by decide +kernel)) rfl
theorem m_805 : Cond.code ⟨"IharaZetaModel","components","()I"⟩ prog_11_method_28_code 1 (some FieldType.int) ∈ tbG := tbG_in (List.mem_of_getElem? (i := 805) (by decide +kernel)) rfl
theorem m_806 : Cond.methodLink "IharaZetaModel" 111 ⟨"IharaZetaModel","partsNow","()I"⟩ ∈ tbG := tbG_in (List.mem_of_getElem? (i := 806) (by decide +kernel)) rfl
theorem m_808 : Cond.instanceMethod ⟨"IharaZetaModel","partsNow","()I"⟩ ∈ tbG := tbG_in (List.mem_of_getElem? (i := 808) (by decide +kernel)) rfl
theorem m_809 : Cond.code ⟨"IharaZetaModel","partsNow","()I"⟩ prog_11_method_27_code 6 (some FieldType.int) ∈ tbG := tbG_in (List.mem_of_getElem? (i := 809) (by decide +kernel)) rfl
theorem m_810 : Cond.methodLink "IharaZetaLaw" 76 ⟨"IharaZetaModel","rank","()I"⟩ ∈ tbG := tbG_in (List.mem_of_getElem? (i := 810) (by decide +kernel)) rfl
theorem m_811 : Cond.instanceMethod ⟨"IharaZetaModel","rank","()I"⟩ ∈ tbG := tbG_in (List.mem_of_getElem? (i := 811) (by decide +kernel)) rfl
theorem m_812 : Cond.selects "IharaZetaModel" ⟨"IharaZetaModel","rank","()I"⟩ ⟨"IharaZetaModel","rank","()I"⟩ ∈ tbG := tbG_in (List.mem_of_getElem? (i := 812) (by decide +kernel)) rfl
theorem m_813 : Cond.code ⟨"IharaZetaModel","rank","()I"⟩ prog_11_method_29_code 1 (some FieldType.int) ∈ tbG := tbG_in (List.mem_of_getElem? (i := 813) (by decide +kernel)) rfl
theorem m_814 : Cond.methodLink "IharaZetaLaw" 80 ⟨"IharaZetaModel","isBalanced","()I"⟩ ∈ tbG := tbG_in (List.mem_of_getElem? (i := 814) (by decide +kernel)) rfl
theorem m_815 : Cond.instanceMethod ⟨"IharaZetaModel","isBalanced","()I"⟩ ∈ tbG := tbG_in (List.mem_of_getElem? (i := 815) (by decide +kernel)) rfl
theorem m_816 : Cond.selects "IharaZetaModel" ⟨"IharaZetaModel","isBalanced","()I"⟩ ⟨"IharaZetaModel","isBalanced","()I"⟩ ∈ tbG := tbG_in (List.mem_of_getElem? (i := 816) (by decide +kernel)) rfl
theorem m_817 : Cond.code ⟨"IharaZetaModel","isBalanced","()I"⟩ prog_11_method_30_code 5 (some FieldType.int) ∈ tbG := tbG_in (List.mem_of_getElem? (i := 817) (by decide +kernel)) rfl
theorem m_818 : Cond.methodLink "IharaZetaModel" 114 ⟨"IharaZetaModel","signOf","(I)I"⟩ ∈ tbG := tbG_in (List.mem_of_getElem? (i := 818) (by decide +kernel)) rfl
theorem m_820 : Cond.instanceMethod ⟨"IharaZetaModel","signOf","(I)I"⟩ ∈ tbG := tbG_in (List.mem_of_getElem? (i := 820) (by decide +kernel)) rfl
theorem m_821 : Cond.code ⟨"IharaZetaModel","signOf","(I)I"⟩ prog_11_method_21_code 2 (some FieldType.int) ∈ tbG := tbG_in (List.mem_of_getElem? (i := 821) (by decide +kernel)) rfl
theorem m_822 : Cond.methodLink "IharaZetaLaw" 85 ⟨"IharaZetaModel","walks","(I)J"⟩ ∈ tbG := tbG_in (List.mem_of_getElem? (i := 822) (by decide +kernel)) rfl
theorem m_823 : Cond.instanceMethod ⟨"IharaZetaModel","walks","(I)J"⟩ ∈ tbG := tbG_in (List.mem_of_getElem? (i := 823) (by decide +kernel)) rfl
theorem m_824 : Cond.selects "IharaZetaModel" ⟨"IharaZetaModel","walks","(I)J"⟩ ⟨"IharaZetaModel","walks","(I)J"⟩ ∈ tbG := tbG_in (List.mem_of_getElem? (i := 824) (by decide +kernel)) rfl
theorem m_825 : Cond.code ⟨"IharaZetaModel","walks","(I)J"⟩ prog_11_method_43_code 2 (some FieldType.long) ∈ tbG := tbG_in (List.mem_of_getElem? (i := 825) (by decide +kernel)) rfl
theorem m_826 : Cond.methodLink "IharaZetaModel" 145 ⟨"IharaZetaModel","isLength","(I)Z"⟩ ∈ tbG := tbG_in (List.mem_of_getElem? (i := 826) (by decide +kernel)) rfl
theorem m_827 : Cond.static ⟨"IharaZetaModel","isLength","(I)Z"⟩ ∈ tbG := tbG_in (List.mem_of_getElem? (i := 827) (by decide +kernel)) rfl
theorem m_828 : Cond.code ⟨"IharaZetaModel","isLength","(I)Z"⟩ prog_11_method_41_code 1 (some FieldType.boolean) ∈ tbG := tbG_in (List.mem_of_getElem? (i := 828) (by decide +kernel)) rfl
theorem m_829 : Cond.methodLink "IharaZetaModel" 148 ⟨"IharaZetaModel","walksOf","(ZI)J"⟩ ∈ tbG := tbG_in (List.mem_of_getElem? (i := 829) (by decide +kernel)) rfl
theorem m_831 : Cond.instanceMethod ⟨"IharaZetaModel","walksOf","(ZI)J"⟩ ∈ tbG := tbG_in (List.mem_of_getElem? (i := 831) (by decide +kernel)) rfl
theorem m_832 : Cond.code ⟨"IharaZetaModel","walksOf","(ZI)J"⟩ prog_11_method_42_code 3 (some FieldType.long) ∈ tbG := tbG_in (List.mem_of_getElem? (i := 832) (by decide +kernel)) rfl
theorem m_833 : Cond.methodLink "IharaZetaModel" 141 ⟨"IharaZetaModel","laysTraces","(ZI[J)V"⟩ ∈ tbG := tbG_in (List.mem_of_getElem? (i := 833) (by decide +kernel)) rfl
theorem m_835 : Cond.instanceMethod ⟨"IharaZetaModel","laysTraces","(ZI[J)V"⟩ ∈ tbG := tbG_in (List.mem_of_getElem? (i := 835) (by decide +kernel)) rfl
theorem m_836 : Cond.code ⟨"IharaZetaModel","laysTraces","(ZI[J)V"⟩ prog_11_method_40_code 6 (none : Option FieldType) ∈ tbG := tbG_in (List.mem_of_getElem? (i := 836) (by decide +kernel)) rfl
theorem m_837 : Cond.methodLink "IharaZetaModel" 128 ⟨"IharaZetaModel","laysEdges","(Z)V"⟩ ∈ tbG := tbG_in (List.mem_of_getElem? (i := 837) (by decide +kernel)) rfl
theorem m_839 : Cond.instanceMethod ⟨"IharaZetaModel","laysEdges","(Z)V"⟩ ∈ tbG := tbG_in (List.mem_of_getElem? (i := 839) (by decide +kernel)) rfl
theorem m_840 : Cond.code ⟨"IharaZetaModel","laysEdges","(Z)V"⟩ prog_11_method_31_code 6 (none : Option FieldType) ∈ tbG := tbG_in (List.mem_of_getElem? (i := 840) (by decide +kernel)) rfl
theorem m_841 : Cond.methodLink "IharaZetaModel" 138 ⟨"IharaZetaModel","goesOn","()V"⟩ ∈ tbG := tbG_in (List.mem_of_getElem? (i := 841) (by decide +kernel)) rfl
theorem m_843 : Cond.instanceMethod ⟨"IharaZetaModel","goesOn","()V"⟩ ∈ tbG := tbG_in (List.mem_of_getElem? (i := 843) (by decide +kernel)) rfl
theorem m_844 : Cond.code ⟨"IharaZetaModel","goesOn","()V"⟩ prog_11_method_39_code 6 (none : Option FieldType) ∈ tbG := tbG_in (List.mem_of_getElem? (i := 844) (by decide +kernel)) rfl
theorem m_845 : Cond.constantLong "IharaZetaModel" 152 (-9223372036854775808 : Int64) ∈ tbG := tbG_in (List.mem_of_getElem? (i := 845) (by decide +kernel)) rfl
theorem m_846 : Cond.methodLink "IharaZetaLaw" 89 ⟨"IharaZetaModel","signedWalks","(I)J"⟩ ∈ tbG := tbG_in (List.mem_of_getElem? (i := 846) (by decide +kernel)) rfl
theorem m_847 : Cond.instanceMethod ⟨"IharaZetaModel","signedWalks","(I)J"⟩ ∈ tbG := tbG_in (List.mem_of_getElem? (i := 847) (by decide +kernel)) rfl
theorem m_848 : Cond.selects "IharaZetaModel" ⟨"IharaZetaModel","signedWalks","(I)J"⟩ ⟨"IharaZetaModel","signedWalks","(I)J"⟩ ∈ tbG := tbG_in (List.mem_of_getElem? (i := 848) (by decide +kernel)) rfl
theorem m_849 : Cond.code ⟨"IharaZetaModel","signedWalks","(I)J"⟩ prog_11_method_44_code 2 (some FieldType.long) ∈ tbG := tbG_in (List.mem_of_getElem? (i := 849) (by decide +kernel)) rfl
theorem m_850 : Cond.methodLink "IharaZetaLaw" 93 ⟨"IharaZetaModel","coverWalks","(I)J"⟩ ∈ tbG := tbG_in (List.mem_of_getElem? (i := 850) (by decide +kernel)) rfl
theorem m_851 : Cond.instanceMethod ⟨"IharaZetaModel","coverWalks","(I)J"⟩ ∈ tbG := tbG_in (List.mem_of_getElem? (i := 851) (by decide +kernel)) rfl
theorem m_852 : Cond.selects "IharaZetaModel" ⟨"IharaZetaModel","coverWalks","(I)J"⟩ ⟨"IharaZetaModel","coverWalks","(I)J"⟩ ∈ tbG := tbG_in (List.mem_of_getElem? (i := 852) (by decide +kernel)) rfl
theorem m_853 : Cond.code ⟨"IharaZetaModel","coverWalks","(I)J"⟩ prog_11_method_45_code 2 (some FieldType.long) ∈ tbG := tbG_in (List.mem_of_getElem? (i := 853) (by decide +kernel)) rfl
theorem m_854 : Cond.methodLink "IharaZetaLaw" 97 ⟨"IharaZetaModel","primes","(I)J"⟩ ∈ tbG := tbG_in (List.mem_of_getElem? (i := 854) (by decide +kernel)) rfl
theorem m_855 : Cond.instanceMethod ⟨"IharaZetaModel","primes","(I)J"⟩ ∈ tbG := tbG_in (List.mem_of_getElem? (i := 855) (by decide +kernel)) rfl
theorem m_856 : Cond.selects "IharaZetaModel" ⟨"IharaZetaModel","primes","(I)J"⟩ ⟨"IharaZetaModel","primes","(I)J"⟩ ∈ tbG := tbG_in (List.mem_of_getElem? (i := 856) (by decide +kernel)) rfl
theorem m_857 : Cond.code ⟨"IharaZetaModel","primes","(I)J"⟩ prog_11_method_47_code 2 (some FieldType.long) ∈ tbG := tbG_in (List.mem_of_getElem? (i := 857) (by decide +kernel)) rfl
theorem m_858 : Cond.methodLink "IharaZetaModel" 156 ⟨"IharaZetaModel","laysPrimes","(I)V"⟩ ∈ tbG := tbG_in (List.mem_of_getElem? (i := 858) (by decide +kernel)) rfl
theorem m_860 : Cond.instanceMethod ⟨"IharaZetaModel","laysPrimes","(I)V"⟩ ∈ tbG := tbG_in (List.mem_of_getElem? (i := 860) (by decide +kernel)) rfl
theorem m_861 : Cond.code ⟨"IharaZetaModel","laysPrimes","(I)V"⟩ prog_11_method_46_code 8 (none : Option FieldType) ∈ tbG := tbG_in (List.mem_of_getElem? (i := 861) (by decide +kernel)) rfl
theorem m_862 : Cond.constantLong "IharaZetaModel" 154 (2 : Int64) ∈ tbG := tbG_in (List.mem_of_getElem? (i := 862) (by decide +kernel)) rfl
theorem m_863 : Cond.methodLink "IharaZetaLaw" 101 ⟨"IharaZetaModel","positivePrimes","(I)J"⟩ ∈ tbG := tbG_in (List.mem_of_getElem? (i := 863) (by decide +kernel)) rfl
theorem m_864 : Cond.instanceMethod ⟨"IharaZetaModel","positivePrimes","(I)J"⟩ ∈ tbG := tbG_in (List.mem_of_getElem? (i := 864) (by decide +kernel)) rfl
theorem m_865 : Cond.selects "IharaZetaModel" ⟨"IharaZetaModel","positivePrimes","(I)J"⟩ ⟨"IharaZetaModel","positivePrimes","(I)J"⟩ ∈ tbG := tbG_in (List.mem_of_getElem? (i := 865) (by decide +kernel)) rfl
theorem m_866 : Cond.code ⟨"IharaZetaModel","positivePrimes","(I)J"⟩ prog_11_method_48_code 2 (some FieldType.long) ∈ tbG := tbG_in (List.mem_of_getElem? (i := 866) (by decide +kernel)) rfl
theorem m_867 : Cond.methodLink "IharaZetaLaw" 105 ⟨"IharaZetaModel","girth","()I"⟩ ∈ tbG := tbG_in (List.mem_of_getElem? (i := 867) (by decide +kernel)) rfl
theorem m_868 : Cond.instanceMethod ⟨"IharaZetaModel","girth","()I"⟩ ∈ tbG := tbG_in (List.mem_of_getElem? (i := 868) (by decide +kernel)) rfl
theorem m_869 : Cond.selects "IharaZetaModel" ⟨"IharaZetaModel","girth","()I"⟩ ⟨"IharaZetaModel","girth","()I"⟩ ∈ tbG := tbG_in (List.mem_of_getElem? (i := 869) (by decide +kernel)) rfl
theorem m_870 : Cond.code ⟨"IharaZetaModel","girth","()I"⟩ prog_11_method_49_code 2 (some FieldType.int) ∈ tbG := tbG_in (List.mem_of_getElem? (i := 870) (by decide +kernel)) rfl
theorem m_871 : Cond.methodLink "IharaZetaLaw" 109 ⟨"IharaZetaModel","period","()I"⟩ ∈ tbG := tbG_in (List.mem_of_getElem? (i := 871) (by decide +kernel)) rfl
theorem m_872 : Cond.instanceMethod ⟨"IharaZetaModel","period","()I"⟩ ∈ tbG := tbG_in (List.mem_of_getElem? (i := 872) (by decide +kernel)) rfl
theorem m_873 : Cond.selects "IharaZetaModel" ⟨"IharaZetaModel","period","()I"⟩ ⟨"IharaZetaModel","period","()I"⟩ ∈ tbG := tbG_in (List.mem_of_getElem? (i := 873) (by decide +kernel)) rfl
theorem m_874 : Cond.code ⟨"IharaZetaModel","period","()I"⟩ prog_11_method_50_code 6 (some FieldType.int) ∈ tbG := tbG_in (List.mem_of_getElem? (i := 874) (by decide +kernel)) rfl
theorem m_875 : Cond.methodLink "IharaZetaLaw" 113 ⟨"IharaZetaModel","primeEdge","(III)I"⟩ ∈ tbG := tbG_in (List.mem_of_getElem? (i := 875) (by decide +kernel)) rfl
theorem m_876 : Cond.instanceMethod ⟨"IharaZetaModel","primeEdge","(III)I"⟩ ∈ tbG := tbG_in (List.mem_of_getElem? (i := 876) (by decide +kernel)) rfl
theorem m_877 : Cond.selects "IharaZetaModel" ⟨"IharaZetaModel","primeEdge","(III)I"⟩ ⟨"IharaZetaModel","primeEdge","(III)I"⟩ ∈ tbG := tbG_in (List.mem_of_getElem? (i := 877) (by decide +kernel)) rfl
theorem m_878 : Cond.code ⟨"IharaZetaModel","primeEdge","(III)I"⟩ prog_11_method_53_code 4 (some FieldType.int) ∈ tbG := tbG_in (List.mem_of_getElem? (i := 878) (by decide +kernel)) rfl
theorem m_879 : Cond.methodLink "IharaZetaModel" 162 ⟨"IharaZetaModel","finds","(II)Z"⟩ ∈ tbG := tbG_in (List.mem_of_getElem? (i := 879) (by decide +kernel)) rfl
theorem m_881 : Cond.instanceMethod ⟨"IharaZetaModel","finds","(II)Z"⟩ ∈ tbG := tbG_in (List.mem_of_getElem? (i := 881) (by decide +kernel)) rfl
theorem m_882 : Cond.code ⟨"IharaZetaModel","finds","(II)Z"⟩ prog_11_method_52_code 5 (some FieldType.boolean) ∈ tbG := tbG_in (List.mem_of_getElem? (i := 882) (by decide +kernel)) rfl
theorem m_883 : Cond.methodLink "IharaZetaModel" 159 ⟨"IharaZetaModel","isFirst","(I)Z"⟩ ∈ tbG := tbG_in (List.mem_of_getElem? (i := 883) (by decide +kernel)) rfl
theorem m_885 : Cond.instanceMethod ⟨"IharaZetaModel","isFirst","(I)Z"⟩ ∈ tbG := tbG_in (List.mem_of_getElem? (i := 885) (by decide +kernel)) rfl
theorem m_886 : Cond.code ⟨"IharaZetaModel","isFirst","(I)Z"⟩ prog_11_method_51_code 5 (some FieldType.boolean) ∈ tbG := tbG_in (List.mem_of_getElem? (i := 886) (by decide +kernel)) rfl
theorem m_887 : Cond.methodLink "IharaZetaLaw" 117 ⟨"IharaZetaModel","primeSign","(II)I"⟩ ∈ tbG := tbG_in (List.mem_of_getElem? (i := 887) (by decide +kernel)) rfl
theorem m_888 : Cond.instanceMethod ⟨"IharaZetaModel","primeSign","(II)I"⟩ ∈ tbG := tbG_in (List.mem_of_getElem? (i := 888) (by decide +kernel)) rfl
theorem m_889 : Cond.selects "IharaZetaModel" ⟨"IharaZetaModel","primeSign","(II)I"⟩ ⟨"IharaZetaModel","primeSign","(II)I"⟩ ∈ tbG := tbG_in (List.mem_of_getElem? (i := 889) (by decide +kernel)) rfl
theorem m_890 : Cond.code ⟨"IharaZetaModel","primeSign","(II)I"⟩ prog_11_method_54_code 5 (some FieldType.int) ∈ tbG := tbG_in (List.mem_of_getElem? (i := 890) (by decide +kernel)) rfl
theorem m_891 : Cond.methodLink "IharaZetaLaw" 121 ⟨"IharaZetaModel","edgeCoefficient","(I)J"⟩ ∈ tbG := tbG_in (List.mem_of_getElem? (i := 891) (by decide +kernel)) rfl
theorem m_892 : Cond.instanceMethod ⟨"IharaZetaModel","edgeCoefficient","(I)J"⟩ ∈ tbG := tbG_in (List.mem_of_getElem? (i := 892) (by decide +kernel)) rfl
theorem m_893 : Cond.selects "IharaZetaModel" ⟨"IharaZetaModel","edgeCoefficient","(I)J"⟩ ⟨"IharaZetaModel","edgeCoefficient","(I)J"⟩ ∈ tbG := tbG_in (List.mem_of_getElem? (i := 893) (by decide +kernel)) rfl
theorem m_894 : Cond.code ⟨"IharaZetaModel","edgeCoefficient","(I)J"⟩ prog_11_method_55_code 2 (some FieldType.long) ∈ tbG := tbG_in (List.mem_of_getElem? (i := 894) (by decide +kernel)) rfl
theorem m_895 : Cond.methodLink "IharaZetaModel" 165 ⟨"IharaZetaModel","laysEdgePoly","()V"⟩ ∈ tbG := tbG_in (List.mem_of_getElem? (i := 895) (by decide +kernel)) rfl
theorem m_897 : Cond.instanceMethod ⟨"IharaZetaModel","laysEdgePoly","()V"⟩ ∈ tbG := tbG_in (List.mem_of_getElem? (i := 897) (by decide +kernel)) rfl
theorem m_898 : Cond.code ⟨"IharaZetaModel","laysEdgePoly","()V"⟩ prog_11_method_37_code 1 (none : Option FieldType) ∈ tbG := tbG_in (List.mem_of_getElem? (i := 898) (by decide +kernel)) rfl
theorem m_899 : Cond.methodLink "IharaZetaModel" 132 ⟨"IharaZetaModel","laysPoly","()V"⟩ ∈ tbG := tbG_in (List.mem_of_getElem? (i := 899) (by decide +kernel)) rfl
theorem m_901 : Cond.instanceMethod ⟨"IharaZetaModel","laysPoly","()V"⟩ ∈ tbG := tbG_in (List.mem_of_getElem? (i := 901) (by decide +kernel)) rfl
theorem m_902 : Cond.code ⟨"IharaZetaModel","laysPoly","()V"⟩ prog_11_method_36_code 4 (none : Option FieldType) ∈ tbG := tbG_in (List.mem_of_getElem? (i := 902) (by decide +kernel)) rfl
theorem m_903 : Cond.methodLink "IharaZetaModel" 120 ⟨"IharaZetaModel","clears","([J)V"⟩ ∈ tbG := tbG_in (List.mem_of_getElem? (i := 903) (by decide +kernel)) rfl
theorem m_905 : Cond.instanceMethod ⟨"IharaZetaModel","clears","([J)V"⟩ ∈ tbG := tbG_in (List.mem_of_getElem? (i := 905) (by decide +kernel)) rfl
theorem m_906 : Cond.code ⟨"IharaZetaModel","clears","([J)V"⟩ prog_11_method_34_code 3 (none : Option FieldType) ∈ tbG := tbG_in (List.mem_of_getElem? (i := 906) (by decide +kernel)) rfl
theorem m_907 : Cond.methodLink "IharaZetaModel" 124 ⟨"IharaZetaModel","laysStep","(I)V"⟩ ∈ tbG := tbG_in (List.mem_of_getElem? (i := 907) (by decide +kernel)) rfl
theorem m_909 : Cond.instanceMethod ⟨"IharaZetaModel","laysStep","(I)V"⟩ ∈ tbG := tbG_in (List.mem_of_getElem? (i := 909) (by decide +kernel)) rfl
theorem m_910 : Cond.code ⟨"IharaZetaModel","laysStep","(I)V"⟩ prog_11_method_35_code 7 (none : Option FieldType) ∈ tbG := tbG_in (List.mem_of_getElem? (i := 910) (by decide +kernel)) rfl
theorem m_911 : Cond.methodLink "IharaZetaLaw" 125 ⟨"IharaZetaModel","signedCoefficient","(I)J"⟩ ∈ tbG := tbG_in (List.mem_of_getElem? (i := 911) (by decide +kernel)) rfl
theorem m_912 : Cond.instanceMethod ⟨"IharaZetaModel","signedCoefficient","(I)J"⟩ ∈ tbG := tbG_in (List.mem_of_getElem? (i := 912) (by decide +kernel)) rfl
theorem m_913 : Cond.selects "IharaZetaModel" ⟨"IharaZetaModel","signedCoefficient","(I)J"⟩ ⟨"IharaZetaModel","signedCoefficient","(I)J"⟩ ∈ tbG := tbG_in (List.mem_of_getElem? (i := 913) (by decide +kernel)) rfl
theorem m_914 : Cond.code ⟨"IharaZetaModel","signedCoefficient","(I)J"⟩ prog_11_method_56_code 2 (some FieldType.long) ∈ tbG := tbG_in (List.mem_of_getElem? (i := 914) (by decide +kernel)) rfl
theorem m_915 : Cond.methodLink "IharaZetaLaw" 129 ⟨"IharaZetaModel","vertexCoefficient","(I)J"⟩ ∈ tbG := tbG_in (List.mem_of_getElem? (i := 915) (by decide +kernel)) rfl
theorem m_916 : Cond.instanceMethod ⟨"IharaZetaModel","vertexCoefficient","(I)J"⟩ ∈ tbG := tbG_in (List.mem_of_getElem? (i := 916) (by decide +kernel)) rfl
theorem m_917 : Cond.selects "IharaZetaModel" ⟨"IharaZetaModel","vertexCoefficient","(I)J"⟩ ⟨"IharaZetaModel","vertexCoefficient","(I)J"⟩ ∈ tbG := tbG_in (List.mem_of_getElem? (i := 917) (by decide +kernel)) rfl
theorem m_918 : Cond.code ⟨"IharaZetaModel","vertexCoefficient","(I)J"⟩ prog_11_method_57_code 2 (some FieldType.long) ∈ tbG := tbG_in (List.mem_of_getElem? (i := 918) (by decide +kernel)) rfl
theorem m_919 : Cond.methodLink "IharaZetaModel" 135 ⟨"IharaZetaModel","laysVertices","()V"⟩ ∈ tbG := tbG_in (List.mem_of_getElem? (i := 919) (by decide +kernel)) rfl
theorem m_921 : Cond.instanceMethod ⟨"IharaZetaModel","laysVertices","()V"⟩ ∈ tbG := tbG_in (List.mem_of_getElem? (i := 921) (by decide +kernel)) rfl
theorem m_922 : Cond.code ⟨"IharaZetaModel","laysVertices","()V"⟩ prog_11_method_32_code 3 (none : Option FieldType) ∈ tbG := tbG_in (List.mem_of_getElem? (i := 922) (by decide +kernel)) rfl
theorem m_923 : Cond.methodLink "IharaZetaLaw" 133 ⟨"IharaZetaModel","bassCoefficient","(I)J"⟩ ∈ tbG := tbG_in (List.mem_of_getElem? (i := 923) (by decide +kernel)) rfl
theorem m_924 : Cond.instanceMethod ⟨"IharaZetaModel","bassCoefficient","(I)J"⟩ ∈ tbG := tbG_in (List.mem_of_getElem? (i := 924) (by decide +kernel)) rfl
theorem m_925 : Cond.selects "IharaZetaModel" ⟨"IharaZetaModel","bassCoefficient","(I)J"⟩ ⟨"IharaZetaModel","bassCoefficient","(I)J"⟩ ∈ tbG := tbG_in (List.mem_of_getElem? (i := 925) (by decide +kernel)) rfl
theorem m_926 : Cond.code ⟨"IharaZetaModel","bassCoefficient","(I)J"⟩ prog_11_method_58_code 2 (some FieldType.long) ∈ tbG := tbG_in (List.mem_of_getElem? (i := 926) (by decide +kernel)) rfl
theorem m_927 : Cond.methodLink "IharaZetaModel" 168 ⟨"IharaZetaModel","laysBassPoly","()V"⟩ ∈ tbG := tbG_in (List.mem_of_getElem? (i := 927) (by decide +kernel)) rfl
theorem m_929 : Cond.instanceMethod ⟨"IharaZetaModel","laysBassPoly","()V"⟩ ∈ tbG := tbG_in (List.mem_of_getElem? (i := 929) (by decide +kernel)) rfl
theorem m_930 : Cond.code ⟨"IharaZetaModel","laysBassPoly","()V"⟩ prog_11_method_38_code 4 (none : Option FieldType) ∈ tbG := tbG_in (List.mem_of_getElem? (i := 930) (by decide +kernel)) rfl
theorem m_931 : Cond.methodLink "IharaZetaLaw" 137 ⟨"IharaZetaModel","zetaCoefficient","(I)J"⟩ ∈ tbG := tbG_in (List.mem_of_getElem? (i := 931) (by decide +kernel)) rfl
theorem m_932 : Cond.instanceMethod ⟨"IharaZetaModel","zetaCoefficient","(I)J"⟩ ∈ tbG := tbG_in (List.mem_of_getElem? (i := 932) (by decide +kernel)) rfl
theorem m_933 : Cond.selects "IharaZetaModel" ⟨"IharaZetaModel","zetaCoefficient","(I)J"⟩ ⟨"IharaZetaModel","zetaCoefficient","(I)J"⟩ ∈ tbG := tbG_in (List.mem_of_getElem? (i := 933) (by decide +kernel)) rfl
theorem m_934 : Cond.code ⟨"IharaZetaModel","zetaCoefficient","(I)J"⟩ prog_11_method_59_code 4 (some FieldType.long) ∈ tbG := tbG_in (List.mem_of_getElem? (i := 934) (by decide +kernel)) rfl
theorem m_935 : Cond.methodLink "IharaZetaLaw" 141 ⟨"IharaZetaModel","edgeValue","(I)J"⟩ ∈ tbG := tbG_in (List.mem_of_getElem? (i := 935) (by decide +kernel)) rfl
theorem m_936 : Cond.instanceMethod ⟨"IharaZetaModel","edgeValue","(I)J"⟩ ∈ tbG := tbG_in (List.mem_of_getElem? (i := 936) (by decide +kernel)) rfl
theorem m_937 : Cond.selects "IharaZetaModel" ⟨"IharaZetaModel","edgeValue","(I)J"⟩ ⟨"IharaZetaModel","edgeValue","(I)J"⟩ ∈ tbG := tbG_in (List.mem_of_getElem? (i := 937) (by decide +kernel)) rfl
theorem m_938 : Cond.code ⟨"IharaZetaModel","edgeValue","(I)J"⟩ prog_11_method_60_code 5 (some FieldType.long) ∈ tbG := tbG_in (List.mem_of_getElem? (i := 938) (by decide +kernel)) rfl
theorem m_939 : Cond.methodLink "IharaZetaLaw" 145 ⟨"IharaZetaModel","taylorAtOne","(I)J"⟩ ∈ tbG := tbG_in (List.mem_of_getElem? (i := 939) (by decide +kernel)) rfl
theorem m_940 : Cond.instanceMethod ⟨"IharaZetaModel","taylorAtOne","(I)J"⟩ ∈ tbG := tbG_in (List.mem_of_getElem? (i := 940) (by decide +kernel)) rfl
theorem m_941 : Cond.selects "IharaZetaModel" ⟨"IharaZetaModel","taylorAtOne","(I)J"⟩ ⟨"IharaZetaModel","taylorAtOne","(I)J"⟩ ∈ tbG := tbG_in (List.mem_of_getElem? (i := 941) (by decide +kernel)) rfl
theorem m_942 : Cond.code ⟨"IharaZetaModel","taylorAtOne","(I)J"⟩ prog_11_method_61_code 4 (some FieldType.long) ∈ tbG := tbG_in (List.mem_of_getElem? (i := 942) (by decide +kernel)) rfl
theorem m_943 : Cond.methodLink "IharaZetaLaw" 149 ⟨"IharaZetaModel","edgeDegree","()I"⟩ ∈ tbG := tbG_in (List.mem_of_getElem? (i := 943) (by decide +kernel)) rfl
theorem m_944 : Cond.instanceMethod ⟨"IharaZetaModel","edgeDegree","()I"⟩ ∈ tbG := tbG_in (List.mem_of_getElem? (i := 944) (by decide +kernel)) rfl
theorem m_945 : Cond.selects "IharaZetaModel" ⟨"IharaZetaModel","edgeDegree","()I"⟩ ⟨"IharaZetaModel","edgeDegree","()I"⟩ ∈ tbG := tbG_in (List.mem_of_getElem? (i := 945) (by decide +kernel)) rfl
theorem m_946 : Cond.code ⟨"IharaZetaModel","edgeDegree","()I"⟩ prog_11_method_62_code 2 (some FieldType.int) ∈ tbG := tbG_in (List.mem_of_getElem? (i := 946) (by decide +kernel)) rfl
theorem m_947 : Cond.methodLink "IharaZetaLaw" 153 ⟨"IharaZetaModel","spanningTrees","()I"⟩ ∈ tbG := tbG_in (List.mem_of_getElem? (i := 947) (by decide +kernel)) rfl
theorem m_948 : Cond.instanceMethod ⟨"IharaZetaModel","spanningTrees","()I"⟩ ∈ tbG := tbG_in (List.mem_of_getElem? (i := 948) (by decide +kernel)) rfl
theorem m_949 : Cond.selects "IharaZetaModel" ⟨"IharaZetaModel","spanningTrees","()I"⟩ ⟨"IharaZetaModel","spanningTrees","()I"⟩ ∈ tbG := tbG_in (List.mem_of_getElem? (i := 949) (by decide +kernel)) rfl
theorem m_950 : Cond.code ⟨"IharaZetaModel","spanningTrees","()I"⟩ prog_11_method_63_code 3 (some FieldType.int) ∈ tbG := tbG_in (List.mem_of_getElem? (i := 950) (by decide +kernel)) rfl
theorem m_951 : Cond.methodLink "IharaZetaModel" 171 ⟨"IharaZetaModel","laysTrees","()V"⟩ ∈ tbG := tbG_in (List.mem_of_getElem? (i := 951) (by decide +kernel)) rfl
theorem m_953 : Cond.instanceMethod ⟨"IharaZetaModel","laysTrees","()V"⟩ ∈ tbG := tbG_in (List.mem_of_getElem? (i := 953) (by decide +kernel)) rfl
theorem m_954 : Cond.code ⟨"IharaZetaModel","laysTrees","()V"⟩ prog_11_method_33_code 4 (none : Option FieldType) ∈ tbG := tbG_in (List.mem_of_getElem? (i := 954) (by decide +kernel)) rfl
