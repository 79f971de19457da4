noncomputable def t_L_known_776 (wS_p1 : QS) : Option (Int32 × QS) :=
  bd (o_configure (nI 1) wS_p1) (fun (q_778 : Int32 × QS) => bd (o_vertexCoefficient (nI 2) q_778.2) (fun (q_784 : Int64 × QS) => if (lg_cmp q_784.1 (-1 : Int64)) = 0 then bd (o_bassCoefficient (nI 0) q_784.2) (fun (q_796 : Int64 × QS) => if (lg_cmp q_796.1 (1 : Int64)) = 0 then bd (o_bassCoefficient (nI 2) q_796.2) (fun (q_806 : Int64 × QS) => if (lg_cmp q_806.1 (0 : Int64)) = 0 then bd (o_spanningTrees q_806.2) (fun (q_815 : Int32 × QS) => if q_815.1 = (nI 1) then bd (o_components q_815.2) (fun (q_823 : Int32 × QS) => if q_823.1 = (nI 1) then bd (o_addEdge (nI 0) (nI 0) (nI 1) q_823.2) (fun (q_834 : Int32 × QS) => if q_834.1 = (nI 4294967295) then bd (o_isBalanced q_834.2) (fun (q_842 : Int32 × QS) => if q_842.1 = (nI 1) then some ((nI 1), q_842.2) else some ((nI 0), q_842.2)) else some ((nI 0), q_834.2)) else some ((nI 0), q_823.2)) else some ((nI 0), q_815.2)) else some ((nI 0), q_806.2)) else some ((nI 0), q_796.2)) else some ((nI 0), q_784.2)))
noncomputable def t_L_known_624 (wS_p1 : QS) : Option (Int32 × QS) :=
  bd (o_walks (nI 2) wS_p1) (fun (q_626 : Int64 × QS) => if (lg_cmp q_626.1 (12 : Int64)) = 0 then bd (o_signedWalks (nI 2) q_626.2) (fun (q_638 : Int64 × QS) => if (lg_cmp q_638.1 (-4 : Int64)) = 0 then bd (o_primes (nI 2) q_638.2) (fun (q_650 : Int64 × QS) => if (lg_cmp q_650.1 (6 : Int64)) = 0 then bd (o_positivePrimes (nI 2) q_650.2) (fun (q_662 : Int64 × QS) => if (lg_cmp q_662.1 (2 : Int64)) = 0 then bd (o_taylorAtOne (nI 2) q_662.2) (fun (q_674 : Int64 × QS) => if (lg_cmp q_674.1 (-12 : Int64)) = 0 then bd (o_taylorAtOne (nI 1) q_674.2) (fun (q_686 : Int64 × QS) => if (lg_cmp q_686.1 (0 : Int64)) = 0 then bd (o_spanningTrees q_686.2) (fun (q_695 : Int32 × QS) => if q_695.1 = (nI 3) then bd (o_period q_695.2) (fun (q_703 : Int32 × QS) => if q_703.1 = (nI 2) then bd (o_edgeDegree q_703.2) (fun (q_711 : Int32 × QS) => if q_711.1 = (nI 6) then bd (o_primeEdge (nI 2) (nI 4) (nI 0) q_711.2) (fun (q_723 : Int32 × QS) => if q_723.1 = (nI 2) then bd (o_primeEdge (nI 2) (nI 4) (nI 1) q_723.2) (fun (q_734 : Int32 × QS) => if q_734.1 = (nI 5) then bd (o_primeSign (nI 2) (nI 1) q_734.2) (fun (q_744 : Int32 × QS) => if q_744.1 = (nI 1) then bd (o_primeSign (nI 2) (nI 0) q_744.2) (fun (q_754 : Int32 × QS) => if q_754.1 = (nI 4294967295) then bd (o_primeEdge (nI 2) (nI 6) (nI 1) q_754.2) (fun (q_766 : Int32 × QS) => if q_766.1 = (nI 4294967287) then t_L_known_776 q_766.2 else some ((nI 0), q_766.2)) else some ((nI 0), q_754.2)) else some ((nI 0), q_744.2)) else some ((nI 0), q_734.2)) else some ((nI 0), q_723.2)) else some ((nI 0), q_711.2)) else some ((nI 0), q_703.2)) else some ((nI 0), q_695.2)) else some ((nI 0), q_686.2)) else some ((nI 0), q_674.2)) else some ((nI 0), q_662.2)) else some ((nI 0), q_650.2)) else some ((nI 0), q_638.2)) else some ((nI 0), q_626.2))
noncomputable def t_L_known_511 (wS_p1 : QS) : Option (Int32 × QS) :=
  bd (o_configure (nI 2) wS_p1) (fun (q_513 : Int32 × QS) => bd (o_addEdge (nI 0) (nI 1) (nI 1) q_513.2) (fun (q_521 : Int32 × QS) => if q_521.1 = 0 then bd (o_addEdge (nI 0) (nI 1) (nI 4294967295) q_521.2) (fun (q_531 : Int32 × QS) => if q_531.1 = (nI 1) then bd (o_addEdge (nI 0) (nI 1) (nI 1) q_531.2) (fun (q_542 : Int32 × QS) => if q_542.1 = (nI 2) then bd (o_edgeCoefficient (nI 2) q_542.2) (fun (q_551 : Int64 × QS) => if (lg_cmp q_551.1 (-6 : Int64)) = 0 then bd (o_edgeCoefficient (nI 4) q_551.2) (fun (q_563 : Int64 × QS) => if (lg_cmp q_563.1 (9 : Int64)) = 0 then bd (o_edgeCoefficient (nI 6) q_563.2) (fun (q_576 : Int64 × QS) => if (lg_cmp q_576.1 (-4 : Int64)) = 0 then bd (o_vertexCoefficient (nI 2) q_576.2) (fun (q_588 : Int64 × QS) => if (lg_cmp q_588.1 (-5 : Int64)) = 0 then bd (o_vertexCoefficient (nI 4) q_588.2) (fun (q_600 : Int64 × QS) => if (lg_cmp q_600.1 (4 : Int64)) = 0 then bd (o_edgeValue (nI 2) q_600.2) (fun (q_612 : Int64 × QS) => if (lg_cmp q_612.1 (-135 : Int64)) = 0 then t_L_known_624 q_612.2 else some ((nI 0), q_612.2)) else some ((nI 0), q_600.2)) else some ((nI 0), q_588.2)) else some ((nI 0), q_576.2)) else some ((nI 0), q_563.2)) else some ((nI 0), q_551.2)) else some ((nI 0), q_542.2)) else some ((nI 0), q_531.2)) else some ((nI 0), q_521.2)))
noncomputable def t_L_known_413 (wS_p1 : QS) : Option (Int32 × QS) :=
  bd (o_primeEdge (nI 3) (nI 0) (nI 0) wS_p1) (fun (q_417 : Int32 × QS) => if q_417.1 = 0 then bd (o_primeEdge (nI 3) (nI 0) (nI 1) q_417.2) (fun (q_427 : Int32 × QS) => if q_427.1 = (nI 3) then bd (o_primeEdge (nI 3) (nI 0) (nI 2) q_427.2) (fun (q_438 : Int32 × QS) => if q_438.1 = (nI 4) then bd (o_primeEdge (nI 3) (nI 1) (nI 0) q_438.2) (fun (q_449 : Int32 × QS) => if q_449.1 = (nI 1) then bd (o_primeEdge (nI 3) (nI 1) (nI 1) q_449.2) (fun (q_460 : Int32 × QS) => if q_460.1 = (nI 5) then bd (o_primeEdge (nI 3) (nI 1) (nI 2) q_460.2) (fun (q_471 : Int32 × QS) => if q_471.1 = (nI 2) then bd (o_primeSign (nI 3) (nI 1) q_471.2) (fun (q_481 : Int32 × QS) => if q_481.1 = (nI 4294967295) then bd (o_primeEdge (nI 3) (nI 2) (nI 0) q_481.2) (fun (q_492 : Int32 × QS) => if q_492.1 = (nI 4294967287) then bd (o_primeSign (nI 3) (nI 2) q_492.2) (fun (q_503 : Int32 × QS) => if q_503.1 = 0 then t_L_known_511 q_503.2 else some ((nI 0), q_503.2)) else some ((nI 0), q_492.2)) else some ((nI 0), q_481.2)) else some ((nI 0), q_471.2)) else some ((nI 0), q_460.2)) else some ((nI 0), q_449.2)) else some ((nI 0), q_438.2)) else some ((nI 0), q_427.2)) else some ((nI 0), q_417.2))
noncomputable def t_L_known_278 (wS_p1 : QS) : Option (Int32 × QS) :=
  bd (o_walks (nI 3) wS_p1) (fun (q_280 : Int64 × QS) => if (lg_cmp q_280.1 (6 : Int64)) = 0 then bd (o_signedWalks (nI 3) q_280.2) (fun (q_292 : Int64 × QS) => if (lg_cmp q_292.1 (-6 : Int64)) = 0 then bd (o_coverWalks (nI 3) q_292.2) (fun (q_304 : Int64 × QS) => if (lg_cmp q_304.1 (0 : Int64)) = 0 then bd (o_coverWalks (nI 6) q_304.2) (fun (q_315 : Int64 × QS) => if (lg_cmp q_315.1 (12 : Int64)) = 0 then bd (o_primes (nI 3) q_315.2) (fun (q_327 : Int64 × QS) => if (lg_cmp q_327.1 (2 : Int64)) = 0 then bd (o_positivePrimes (nI 3) q_327.2) (fun (q_339 : Int64 × QS) => if (lg_cmp q_339.1 (0 : Int64)) = 0 then bd (o_primes (nI 6) q_339.2) (fun (q_350 : Int64 × QS) => if (lg_cmp q_350.1 (0 : Int64)) = 0 then bd (o_girth q_350.2) (fun (q_359 : Int32 × QS) => if q_359.1 = (nI 3) then bd (o_period q_359.2) (fun (q_367 : Int32 × QS) => if q_367.1 = (nI 3) then bd (o_spanningTrees q_367.2) (fun (q_375 : Int32 × QS) => if q_375.1 = (nI 3) then bd (o_isBalanced q_375.2) (fun (q_383 : Int32 × QS) => if q_383.1 = 0 then bd (o_taylorAtOne (nI 1) q_383.2) (fun (q_391 : Int64 × QS) => if (lg_cmp q_391.1 (0 : Int64)) = 0 then bd (o_taylorAtOne (nI 2) q_391.2) (fun (q_401 : Int64 × QS) => if (lg_cmp q_401.1 (9 : Int64)) = 0 then t_L_known_413 q_401.2 else some ((nI 0), q_401.2)) else some ((nI 0), q_391.2)) else some ((nI 0), q_383.2)) else some ((nI 0), q_375.2)) else some ((nI 0), q_367.2)) else some ((nI 0), q_359.2)) else some ((nI 0), q_350.2)) else some ((nI 0), q_339.2)) else some ((nI 0), q_327.2)) else some ((nI 0), q_315.2)) else some ((nI 0), q_304.2)) else some ((nI 0), q_292.2)) else some ((nI 0), q_280.2))
noncomputable def t_L_known_159 (wS_p1 : QS) : Option (Int32 × QS) :=
  bd (o_edgeCoefficient (nI 3) wS_p1) (fun (q_161 : Int64 × QS) => if (lg_cmp q_161.1 (-2 : Int64)) = 0 then bd (o_edgeCoefficient (nI 6) q_161.2) (fun (q_174 : Int64 × QS) => if (lg_cmp q_174.1 (1 : Int64)) = 0 then bd (o_edgeCoefficient (nI 9) q_174.2) (fun (q_185 : Int64 × QS) => if (lg_cmp q_185.1 (0 : Int64)) = 0 then bd (o_signedCoefficient (nI 3) q_185.2) (fun (q_195 : Int64 × QS) => if (lg_cmp q_195.1 (2 : Int64)) = 0 then bd (o_zetaCoefficient (nI 12) q_195.2) (fun (q_208 : Int64 × QS) => if (lg_cmp q_208.1 (5 : Int64)) = 0 then bd (o_zetaCoefficient (nI 11) q_208.2) (fun (q_221 : Int64 × QS) => if (lg_cmp q_221.1 (0 : Int64)) = 0 then bd (o_edgeValue (nI 2) q_221.2) (fun (q_231 : Int64 × QS) => if (lg_cmp q_231.1 (49 : Int64)) = 0 then bd (o_edgeValue (nI 4294967295) q_231.2) (fun (q_243 : Int64 × QS) => if (lg_cmp q_243.1 (4 : Int64)) = 0 then bd (o_edgeValue (nI 4294967294) q_243.2) (fun (q_256 : Int64 × QS) => if (lg_cmp q_256.1 (81 : Int64)) = 0 then bd (o_edgeValue (nI 0) q_256.2) (fun (q_268 : Int64 × QS) => if (lg_cmp q_268.1 (1 : Int64)) = 0 then t_L_known_278 q_268.2 else some ((nI 0), q_268.2)) else some ((nI 0), q_256.2)) else some ((nI 0), q_243.2)) else some ((nI 0), q_231.2)) else some ((nI 0), q_221.2)) else some ((nI 0), q_208.2)) else some ((nI 0), q_195.2)) else some ((nI 0), q_185.2)) else some ((nI 0), q_174.2)) else some ((nI 0), q_161.2))
noncomputable def t_L_known_110 (wS_p1 : QS) : Option (Int32 × QS) :=
  bd (o_addEdge (nI 0) (nI 1) (nI 1) wS_p1) (fun (q_114 : Int32 × QS) => if q_114.1 = 0 then bd (o_addEdge (nI 2) (nI 1) (nI 1) q_114.2) (fun (q_124 : Int32 × QS) => if q_124.1 = (nI 1) then bd (o_spanningTrees q_124.2) (fun (q_132 : Int32 × QS) => if q_132.1 = (nI 1) then bd (o_rank q_132.2) (fun (q_140 : Int32 × QS) => if q_140.1 = 0 then bd (o_addEdge (nI 2) (nI 0) (nI 4294967295) q_140.2) (fun (q_150 : Int32 × QS) => if q_150.1 = (nI 2) then t_L_known_159 q_150.2 else some ((nI 0), q_150.2)) else some ((nI 0), q_140.2)) else some ((nI 0), q_132.2)) else some ((nI 0), q_124.2)) else some ((nI 0), q_114.2))
noncomputable def f_L_known (S_p1 : QS) : Option (Int32 × QS) :=
  bd (o_configure (nI 3) S_p1) (fun (q_2 : Int32 × QS) => bd (o_girth q_2.2) (fun (q_7 : Int32 × QS) => if q_7.1 = (nI 4294967287) then bd (o_period q_7.2) (fun (q_16 : Int32 × QS) => if q_16.1 = (nI 4294967287) then bd (o_edgeCoefficient (nI 0) q_16.2) (fun (q_26 : Int64 × QS) => if (lg_cmp q_26.1 (1 : Int64)) = 0 then bd (o_vertexCoefficient (nI 6) q_26.2) (fun (q_37 : Int64 × QS) => if (lg_cmp q_37.1 (-1 : Int64)) = 0 then bd (o_bassCoefficient (nI 0) q_37.2) (fun (q_49 : Int64 × QS) => if (lg_cmp q_49.1 (1 : Int64)) = 0 then bd (o_bassCoefficient (nI 2) q_49.2) (fun (q_59 : Int64 × QS) => if (lg_cmp q_59.1 (0 : Int64)) = 0 then bd (o_edgeDegree q_59.2) (fun (q_68 : Int32 × QS) => if q_68.1 = 0 then bd (o_isBalanced q_68.2) (fun (q_75 : Int32 × QS) => if q_75.1 = (nI 1) then bd (o_components q_75.2) (fun (q_83 : Int32 × QS) => if q_83.1 = (nI 3) then bd (o_rank q_83.2) (fun (q_91 : Int32 × QS) => if q_91.1 = 0 then bd (o_walks (nI 18) q_91.2) (fun (q_100 : Int64 × QS) => if (lg_cmp q_100.1 (0 : Int64)) = 0 then t_L_known_110 q_100.2 else some ((nI 0), q_100.2)) else some ((nI 0), q_91.2)) else some ((nI 0), q_83.2)) else some ((nI 0), q_75.2)) else some ((nI 0), q_68.2)) else some ((nI 0), q_59.2)) else some ((nI 0), q_49.2)) else some ((nI 0), q_37.2)) else some ((nI 0), q_26.2)) else some ((nI 0), q_16.2)) else some ((nI 0), q_7.2)))
theorem yq_L_known : yq yL_known 1 := by unfold yq; decide +kernel
set_option maxHeartbeats 4000000 in
set_option maxRecDepth 100000 in
theorem c_L_known (g : GG) (l : Launch) (h_p1 : Nat) (al_h_p1 : Nat → Nat) (S_p1 : QS) {R : Int32 × QS} (hM : f_L_known S_p1 = some R) : CT g l yL_known cL_known 1 (some .boolean) 13 328 [.ref h_p1] (OB g h_p1 al_h_p1 S_p1 ++ []) (OB g h_p1 al_h_p1 R.2 ++ []) (some (.int R.1)) := by
  refine ct_z (by decide +kernel) (Nat.le_of_ble_eq_true rfl) ?_
  intro p e s m args below meth c Q A ls cx hP hD hA hl hfin
  obtain ⟨hx, hb, hml, hown, hts, hK⟩ := id cx
  have hl : lv_has ls 1 [(0, .ref h_p1)] := hl
  have hT_776 : ∀ (wS_p1 : QS) (hM : t_L_known_776 wS_p1 = some R), ∀ (H : Heap) (locs : List Loc) (ls : Array Slot), va_P (gD g) vwCl (OB g h_p1 al_h_p1 wS_p1 ++ []) H → va_D A (OB g h_p1 al_h_p1 wS_p1 ++ []) → va_S A s.heap H locs → lv_has ls 1 [(0, .ref h_p1)] → W p l e (rmv 13 328) s m args below meth c H locs 0 0 Q (F0 m 776 ls []) := by
    intro wS_p1 hM H locs ls hP hD hS hl
    refine lv_aload_n hx hb dL_known_776 rfl (lv_at hl 0 rfl) ?_
    refine lv_iconst (v := (nI 1)) hx hb dL_known_777 (by decide) ?_
    obtain ⟨q_778, hc_778, hM⟩ := bd_some hM
    refine w_callV cx hP hD hS hA (co_configure g l h_p1 al_h_p1 (nI 1) wS_p1 hc_778) (blk 0 127) pf_C ob_nd (obx_f rfl) (OB g h_p1 al_h_p1 q_778.2 ++ []) pf_S 0 8 rfl rfl yq_X8_configure rfl m_339 m_340 m_341 m_17 m_342 ⟨Nat.le_of_ble_eq_true rfl, Nat.le_of_ble_eq_true rfl⟩ rfl rfl hl.1 (Nat.le_of_ble_eq_true rfl) dL_known_778 ⟨Nat.le_refl 0, Nat.le_refl 0⟩ rfl (fun H locs hP hD hS => ?_)
    refine lv_pop hx hb dL_known_781 rfl ?_
    refine lv_aload_n hx hb dL_known_782 rfl (lv_at hl 0 rfl) ?_
    refine lv_iconst (v := (nI 2)) hx hb dL_known_783 (by decide) ?_
    obtain ⟨q_784, hc_784, hM⟩ := bd_some hM
    refine w_callV cx hP hD hS hA (co_vertexCoefficient g l h_p1 al_h_p1 (nI 2) q_778.2 hc_784) (blk 0 127) pf_C ob_nd (obx_f rfl) (OB g h_p1 al_h_p1 q_784.2 ++ []) pf_S 0 8 rfl rfl yq_X8_vertexCoefficient rfl m_517 m_518 m_519 m_17 m_520 ⟨Nat.le_of_ble_eq_true rfl, Nat.le_of_ble_eq_true rfl⟩ rfl rfl hl.1 (Nat.le_of_ble_eq_true rfl) dL_known_784 ⟨Nat.le_refl 0, Nat.le_refl 0⟩ rfl (fun H locs hP hD hS => ?_)
    refine lv_ldc2 hx hb hown (hts _ m_650) dL_known_787 ?_
    refine W.lcmp hx hb dL_known_790 ?_
    refine lv_if_ne (tgt := 853) hx hb dL_known_791 (by decide) (fun c_791 => ?_) (fun c_791 => ?_)
    · have hM := if_f hM c_791
      refine lv_iconst (v := (nI 0)) hx hb dL_known_853 (by decide) ?_
      have hz : bq (nI 0) = true := by decide
      obtain rfl := Option.some.inj hM
      exact hfin 854 _ _ _ dL_known_854 hz hP hD hS
    · have hM := if_t hM c_791
      refine lv_aload_n hx hb dL_known_794 rfl (lv_at hl 0 rfl) ?_
      refine lv_iconst (v := (nI 0)) hx hb dL_known_795 (by decide) ?_
      obtain ⟨q_796, hc_796, hM⟩ := bd_some hM
      refine w_callV cx hP hD hS hA (co_bassCoefficient g l h_p1 al_h_p1 (nI 0) q_784.2 hc_796) (blk 0 127) pf_C ob_nd (obx_f rfl) (OB g h_p1 al_h_p1 q_796.2 ++ []) pf_S 0 8 rfl rfl yq_X8_bassCoefficient rfl m_550 m_551 m_552 m_17 m_553 ⟨Nat.le_of_ble_eq_true rfl, Nat.le_of_ble_eq_true rfl⟩ rfl rfl hl.1 (Nat.le_of_ble_eq_true rfl) dL_known_796 ⟨Nat.le_refl 0, Nat.le_refl 0⟩ rfl (fun H locs hP hD hS => ?_)
      refine lv_lconst (v := (1 : Int64)) hx hb dL_known_799 (by decide) ?_
      refine W.lcmp hx hb dL_known_800 ?_
      refine lv_if_ne (tgt := 853) hx hb dL_known_801 (by decide) (fun c_801 => ?_) (fun c_801 => ?_)
      · have hM := if_f hM c_801
        refine lv_iconst (v := (nI 0)) hx hb dL_known_853 (by decide) ?_
        have hz : bq (nI 0) = true := by decide
        obtain rfl := Option.some.inj hM
        exact hfin 854 _ _ _ dL_known_854 hz hP hD hS
      · have hM := if_t hM c_801
        refine lv_aload_n hx hb dL_known_804 rfl (lv_at hl 0 rfl) ?_
        refine lv_iconst (v := (nI 2)) hx hb dL_known_805 (by decide) ?_
        obtain ⟨q_806, hc_806, hM⟩ := bd_some hM
        refine w_callV cx hP hD hS hA (co_bassCoefficient g l h_p1 al_h_p1 (nI 2) q_796.2 hc_806) (blk 0 127) pf_C ob_nd (obx_f rfl) (OB g h_p1 al_h_p1 q_806.2 ++ []) pf_S 0 8 rfl rfl yq_X8_bassCoefficient rfl m_550 m_551 m_552 m_17 m_553 ⟨Nat.le_of_ble_eq_true rfl, Nat.le_of_ble_eq_true rfl⟩ rfl rfl hl.1 (Nat.le_of_ble_eq_true rfl) dL_known_806 ⟨Nat.le_refl 0, Nat.le_refl 0⟩ rfl (fun H locs hP hD hS => ?_)
        refine lv_lconst (v := (0 : Int64)) hx hb dL_known_809 (by decide) ?_
        refine W.lcmp hx hb dL_known_810 ?_
        refine lv_if_ne (tgt := 853) hx hb dL_known_811 (by decide) (fun c_811 => ?_) (fun c_811 => ?_)
        · have hM := if_f hM c_811
          refine lv_iconst (v := (nI 0)) hx hb dL_known_853 (by decide) ?_
          have hz : bq (nI 0) = true := by decide
          obtain rfl := Option.some.inj hM
          exact hfin 854 _ _ _ dL_known_854 hz hP hD hS
        · have hM := if_t hM c_811
          refine lv_aload_n hx hb dL_known_814 rfl (lv_at hl 0 rfl) ?_
          obtain ⟨q_815, hc_815, hM⟩ := bd_some hM
          refine w_callV cx hP hD hS hA (co_spanningTrees g l h_p1 al_h_p1 q_806.2 hc_815) (blk 0 127) pf_C ob_nd (obx_f rfl) (OB g h_p1 al_h_p1 q_815.2 ++ []) pf_S 0 8 rfl rfl yq_X8_spanningTrees rfl m_615 m_616 m_617 m_17 m_618 ⟨Nat.le_of_ble_eq_true rfl, Nat.le_of_ble_eq_true rfl⟩ rfl rfl hl.1 (Nat.le_of_ble_eq_true rfl) dL_known_815 ⟨Nat.le_refl 0, Nat.le_refl 0⟩ rfl (fun H locs hP hD hS => ?_)
          refine lv_iconst (v := (nI 1)) hx hb dL_known_818 (by decide) ?_
          refine lv_icmp_ne (tgt := 853) hx hb dL_known_819 (by decide) (fun c_819 => ?_) (fun c_819 => ?_)
          · have hM := if_f hM c_819
            refine lv_iconst (v := (nI 0)) hx hb dL_known_853 (by decide) ?_
            have hz : bq (nI 0) = true := by decide
            obtain rfl := Option.some.inj hM
            exact hfin 854 _ _ _ dL_known_854 hz hP hD hS
          · have hM := if_t hM c_819
            refine lv_aload_n hx hb dL_known_822 rfl (lv_at hl 0 rfl) ?_
            obtain ⟨q_823, hc_823, hM⟩ := bd_some hM
            refine w_callV cx hP hD hS hA (co_components g l h_p1 al_h_p1 q_815.2 hc_823) (blk 0 127) pf_C ob_nd (obx_f rfl) (OB g h_p1 al_h_p1 q_823.2 ++ []) pf_S 0 8 rfl rfl yq_X8_components rfl m_628 m_629 m_630 m_17 m_631 ⟨Nat.le_of_ble_eq_true rfl, Nat.le_of_ble_eq_true rfl⟩ rfl rfl hl.1 (Nat.le_of_ble_eq_true rfl) dL_known_823 ⟨Nat.le_refl 0, Nat.le_refl 0⟩ rfl (fun H locs hP hD hS => ?_)
            refine lv_iconst (v := (nI 1)) hx hb dL_known_826 (by decide) ?_
            refine lv_icmp_ne (tgt := 853) hx hb dL_known_827 (by decide) (fun c_827 => ?_) (fun c_827 => ?_)
            · have hM := if_f hM c_827
              refine lv_iconst (v := (nI 0)) hx hb dL_known_853 (by decide) ?_
              have hz : bq (nI 0) = true := by decide
              obtain rfl := Option.some.inj hM
              exact hfin 854 _ _ _ dL_known_854 hz hP hD hS
            · have hM := if_t hM c_827
              refine lv_aload_n hx hb dL_known_830 rfl (lv_at hl 0 rfl) ?_
              refine lv_iconst (v := (nI 0)) hx hb dL_known_831 (by decide) ?_
              refine lv_iconst (v := (nI 0)) hx hb dL_known_832 (by decide) ?_
              refine lv_iconst (v := (nI 1)) hx hb dL_known_833 (by decide) ?_
              obtain ⟨q_834, hc_834, hM⟩ := bd_some hM
              refine w_callV cx hP hD hS hA (co_addEdge g l h_p1 al_h_p1 (nI 0) (nI 0) (nI 1) q_823.2 hc_834) (blk 0 127) pf_C ob_nd (obx_f rfl) (OB g h_p1 al_h_p1 q_834.2 ++ []) pf_S 0 8 rfl rfl yq_X8_addEdge rfl m_231 m_232 m_233 m_17 m_234 ⟨Nat.le_of_ble_eq_true rfl, Nat.le_of_ble_eq_true rfl⟩ rfl rfl hl.1 (Nat.le_of_ble_eq_true rfl) dL_known_834 ⟨Nat.le_refl 0, Nat.le_refl 0⟩ rfl (fun H locs hP hD hS => ?_)
              refine lv_iconst (v := (nI 4294967295)) hx hb dL_known_837 (by decide) ?_
              refine lv_icmp_ne (tgt := 853) hx hb dL_known_838 (by decide) (fun c_838 => ?_) (fun c_838 => ?_)
              · have hM := if_f hM c_838
                refine lv_iconst (v := (nI 0)) hx hb dL_known_853 (by decide) ?_
                have hz : bq (nI 0) = true := by decide
                obtain rfl := Option.some.inj hM
                exact hfin 854 _ _ _ dL_known_854 hz hP hD hS
              · have hM := if_t hM c_838
                refine lv_aload_n hx hb dL_known_841 rfl (lv_at hl 0 rfl) ?_
                obtain ⟨q_842, hc_842, hM⟩ := bd_some hM
                refine w_callV cx hP hD hS hA (co_isBalanced g l h_p1 al_h_p1 q_834.2 hc_842) (blk 0 127) pf_C ob_nd (obx_f rfl) (OB g h_p1 al_h_p1 q_842.2 ++ []) pf_S 0 8 rfl rfl yq_X8_isBalanced rfl m_396 m_397 m_398 m_17 m_399 ⟨Nat.le_of_ble_eq_true rfl, Nat.le_of_ble_eq_true rfl⟩ rfl rfl hl.1 (Nat.le_of_ble_eq_true rfl) dL_known_842 ⟨Nat.le_refl 0, Nat.le_refl 0⟩ rfl (fun H locs hP hD hS => ?_)
                refine lv_iconst (v := (nI 1)) hx hb dL_known_845 (by decide) ?_
                refine lv_icmp_ne (tgt := 853) hx hb dL_known_846 (by decide) (fun c_846 => ?_) (fun c_846 => ?_)
                · have hM := if_f hM c_846
                  refine lv_iconst (v := (nI 0)) hx hb dL_known_853 (by decide) ?_
                  have hz : bq (nI 0) = true := by decide
                  obtain rfl := Option.some.inj hM
                  exact hfin 854 _ _ _ dL_known_854 hz hP hD hS
                · have hM := if_t hM c_846
                  refine lv_iconst (v := (nI 1)) hx hb dL_known_849 (by decide) ?_
                  refine lv_goto (tgt := 854) hx hb dL_known_850 (by decide) ?_
                  have hz : bq (nI 1) = true := by decide
                  obtain rfl := Option.some.inj hM
                  exact hfin 854 _ _ _ dL_known_854 hz hP hD hS
  have hT_624 : ∀ (wS_p1 : QS) (hM : t_L_known_624 wS_p1 = some R), ∀ (H : Heap) (locs : List Loc) (ls : Array Slot), va_P (gD g) vwCl (OB g h_p1 al_h_p1 wS_p1 ++ []) H → va_D A (OB g h_p1 al_h_p1 wS_p1 ++ []) → va_S A s.heap H locs → lv_has ls 1 [(0, .ref h_p1)] → W p l e (rmv 13 328) s m args below meth c H locs 0 0 Q (F0 m 624 ls []) := by
    intro wS_p1 hM H locs ls hP hD hS hl
    refine lv_aload_n hx hb dL_known_624 rfl (lv_at hl 0 rfl) ?_
    refine lv_iconst (v := (nI 2)) hx hb dL_known_625 (by decide) ?_
    obtain ⟨q_626, hc_626, hM⟩ := bd_some hM
    refine w_callV cx hP hD hS hA (co_walks g l h_p1 al_h_p1 (nI 2) wS_p1 hc_626) (blk 0 127) pf_C ob_nd (obx_f rfl) (OB g h_p1 al_h_p1 q_626.2 ++ []) pf_S 0 8 rfl rfl yq_X8_walks rfl m_388 m_389 m_390 m_17 m_391 ⟨Nat.le_of_ble_eq_true rfl, Nat.le_of_ble_eq_true rfl⟩ rfl rfl hl.1 (Nat.le_of_ble_eq_true rfl) dL_known_626 ⟨Nat.le_refl 0, Nat.le_refl 0⟩ rfl (fun H locs hP hD hS => ?_)
    refine lv_ldc2 hx hb hown (hts _ m_662) dL_known_629 ?_
    refine W.lcmp hx hb dL_known_632 ?_
    refine lv_if_ne (tgt := 774) hx hb dL_known_633 (by decide) (fun c_633 => ?_) (fun c_633 => ?_)
    · have hM := if_f hM c_633
      refine lv_iconst (v := (nI 0)) hx hb dL_known_774 (by decide) ?_
      have hz : bq (nI 0) = true := by decide
      obtain rfl := Option.some.inj hM
      exact hfin 775 _ _ _ dL_known_775 hz hP hD hS
    · have hM := if_t hM c_633
      refine lv_aload_n hx hb dL_known_636 rfl (lv_at hl 0 rfl) ?_
      refine lv_iconst (v := (nI 2)) hx hb dL_known_637 (by decide) ?_
      obtain ⟨q_638, hc_638, hM⟩ := bd_some hM
      refine w_callV cx hP hD hS hA (co_signedWalks g l h_p1 al_h_p1 (nI 2) q_626.2 hc_638) (blk 0 127) pf_C ob_nd (obx_f rfl) (OB g h_p1 al_h_p1 q_638.2 ++ []) pf_S 0 8 rfl rfl yq_X8_signedWalks rfl m_359 m_360 m_361 m_17 m_362 ⟨Nat.le_of_ble_eq_true rfl, Nat.le_of_ble_eq_true rfl⟩ rfl rfl hl.1 (Nat.le_of_ble_eq_true rfl) dL_known_638 ⟨Nat.le_refl 0, Nat.le_refl 0⟩ rfl (fun H locs hP hD hS => ?_)
      refine lv_ldc2 hx hb hown (hts _ m_664) dL_known_641 ?_
      refine W.lcmp hx hb dL_known_644 ?_
      refine lv_if_ne (tgt := 774) hx hb dL_known_645 (by decide) (fun c_645 => ?_) (fun c_645 => ?_)
      · have hM := if_f hM c_645
        refine lv_iconst (v := (nI 0)) hx hb dL_known_774 (by decide) ?_
        have hz : bq (nI 0) = true := by decide
        obtain rfl := Option.some.inj hM
        exact hfin 775 _ _ _ dL_known_775 hz hP hD hS
      · have hM := if_t hM c_645
        refine lv_aload_n hx hb dL_known_648 rfl (lv_at hl 0 rfl) ?_
        refine lv_iconst (v := (nI 2)) hx hb dL_known_649 (by decide) ?_
        obtain ⟨q_650, hc_650, hM⟩ := bd_some hM
        refine w_callV cx hP hD hS hA (co_primes g l h_p1 al_h_p1 (nI 2) q_638.2 hc_650) (blk 0 127) pf_C ob_nd (obx_f rfl) (OB g h_p1 al_h_p1 q_650.2 ++ []) pf_S 0 8 rfl rfl yq_X8_primes rfl m_450 m_451 m_452 m_17 m_453 ⟨Nat.le_of_ble_eq_true rfl, Nat.le_of_ble_eq_true rfl⟩ rfl rfl hl.1 (Nat.le_of_ble_eq_true rfl) dL_known_650 ⟨Nat.le_refl 0, Nat.le_refl 0⟩ rfl (fun H locs hP hD hS => ?_)
        refine lv_ldc2 hx hb hown (hts _ m_661) dL_known_653 ?_
        refine W.lcmp hx hb dL_known_656 ?_
        refine lv_if_ne (tgt := 774) hx hb dL_known_657 (by decide) (fun c_657 => ?_) (fun c_657 => ?_)
        · have hM := if_f hM c_657
          refine lv_iconst (v := (nI 0)) hx hb dL_known_774 (by decide) ?_
          have hz : bq (nI 0) = true := by decide
          obtain rfl := Option.some.inj hM
          exact hfin 775 _ _ _ dL_known_775 hz hP hD hS
        · have hM := if_t hM c_657
          refine lv_aload_n hx hb dL_known_660 rfl (lv_at hl 0 rfl) ?_
          refine lv_iconst (v := (nI 2)) hx hb dL_known_661 (by decide) ?_
          obtain ⟨q_662, hc_662, hM⟩ := bd_some hM
          refine w_callV cx hP hD hS hA (co_positivePrimes g l h_p1 al_h_p1 (nI 2) q_650.2 hc_662) (blk 0 127) pf_C ob_nd (obx_f rfl) (OB g h_p1 al_h_p1 q_662.2 ++ []) pf_S 0 8 rfl rfl yq_X8_positivePrimes rfl m_459 m_460 m_461 m_17 m_462 ⟨Nat.le_of_ble_eq_true rfl, Nat.le_of_ble_eq_true rfl⟩ rfl rfl hl.1 (Nat.le_of_ble_eq_true rfl) dL_known_662 ⟨Nat.le_refl 0, Nat.le_refl 0⟩ rfl (fun H locs hP hD hS => ?_)
          refine lv_ldc2 hx hb hown (hts _ m_656) dL_known_665 ?_
          refine W.lcmp hx hb dL_known_668 ?_
          refine lv_if_ne (tgt := 774) hx hb dL_known_669 (by decide) (fun c_669 => ?_) (fun c_669 => ?_)
          · have hM := if_f hM c_669
            refine lv_iconst (v := (nI 0)) hx hb dL_known_774 (by decide) ?_
            have hz : bq (nI 0) = true := by decide
            obtain rfl := Option.some.inj hM
            exact hfin 775 _ _ _ dL_known_775 hz hP hD hS
          · have hM := if_t hM c_669
            refine lv_aload_n hx hb dL_known_672 rfl (lv_at hl 0 rfl) ?_
            refine lv_iconst (v := (nI 2)) hx hb dL_known_673 (by decide) ?_
            obtain ⟨q_674, hc_674, hM⟩ := bd_some hM
            refine w_callV cx hP hD hS hA (co_taylorAtOne g l h_p1 al_h_p1 (nI 2) q_662.2 hc_674) (blk 0 127) pf_C ob_nd (obx_f rfl) (OB g h_p1 al_h_p1 q_674.2 ++ []) pf_S 0 8 rfl rfl yq_X8_taylorAtOne rfl m_574 m_575 m_576 m_17 m_577 ⟨Nat.le_of_ble_eq_true rfl, Nat.le_of_ble_eq_true rfl⟩ rfl rfl hl.1 (Nat.le_of_ble_eq_true rfl) dL_known_674 ⟨Nat.le_refl 0, Nat.le_refl 0⟩ rfl (fun H locs hP hD hS => ?_)
            refine lv_ldc2 hx hb hown (hts _ m_667) dL_known_677 ?_
            refine W.lcmp hx hb dL_known_680 ?_
            refine lv_if_ne (tgt := 774) hx hb dL_known_681 (by decide) (fun c_681 => ?_) (fun c_681 => ?_)
            · have hM := if_f hM c_681
              refine lv_iconst (v := (nI 0)) hx hb dL_known_774 (by decide) ?_
              have hz : bq (nI 0) = true := by decide
              obtain rfl := Option.some.inj hM
              exact hfin 775 _ _ _ dL_known_775 hz hP hD hS
            · have hM := if_t hM c_681
              refine lv_aload_n hx hb dL_known_684 rfl (lv_at hl 0 rfl) ?_
              refine lv_iconst (v := (nI 1)) hx hb dL_known_685 (by decide) ?_
              obtain ⟨q_686, hc_686, hM⟩ := bd_some hM
              refine w_callV cx hP hD hS hA (co_taylorAtOne g l h_p1 al_h_p1 (nI 1) q_674.2 hc_686) (blk 0 127) pf_C ob_nd (obx_f rfl) (OB g h_p1 al_h_p1 q_686.2 ++ []) pf_S 0 8 rfl rfl yq_X8_taylorAtOne rfl m_574 m_575 m_576 m_17 m_577 ⟨Nat.le_of_ble_eq_true rfl, Nat.le_of_ble_eq_true rfl⟩ rfl rfl hl.1 (Nat.le_of_ble_eq_true rfl) dL_known_686 ⟨Nat.le_refl 0, Nat.le_refl 0⟩ rfl (fun H locs hP hD hS => ?_)
              refine lv_lconst (v := (0 : Int64)) hx hb dL_known_689 (by decide) ?_
              refine W.lcmp hx hb dL_known_690 ?_
              refine lv_if_ne (tgt := 774) hx hb dL_known_691 (by decide) (fun c_691 => ?_) (fun c_691 => ?_)
              · have hM := if_f hM c_691
                refine lv_iconst (v := (nI 0)) hx hb dL_known_774 (by decide) ?_
                have hz : bq (nI 0) = true := by decide
                obtain rfl := Option.some.inj hM
                exact hfin 775 _ _ _ dL_known_775 hz hP hD hS
              · have hM := if_t hM c_691
                refine lv_aload_n hx hb dL_known_694 rfl (lv_at hl 0 rfl) ?_
                obtain ⟨q_695, hc_695, hM⟩ := bd_some hM
                refine w_callV cx hP hD hS hA (co_spanningTrees g l h_p1 al_h_p1 q_686.2 hc_695) (blk 0 127) pf_C ob_nd (obx_f rfl) (OB g h_p1 al_h_p1 q_695.2 ++ []) pf_S 0 8 rfl rfl yq_X8_spanningTrees rfl m_615 m_616 m_617 m_17 m_618 ⟨Nat.le_of_ble_eq_true rfl, Nat.le_of_ble_eq_true rfl⟩ rfl rfl hl.1 (Nat.le_of_ble_eq_true rfl) dL_known_695 ⟨Nat.le_refl 0, Nat.le_refl 0⟩ rfl (fun H locs hP hD hS => ?_)
                refine lv_iconst (v := (nI 3)) hx hb dL_known_698 (by decide) ?_
                refine lv_icmp_ne (tgt := 774) hx hb dL_known_699 (by decide) (fun c_699 => ?_) (fun c_699 => ?_)
                · have hM := if_f hM c_699
                  refine lv_iconst (v := (nI 0)) hx hb dL_known_774 (by decide) ?_
                  have hz : bq (nI 0) = true := by decide
                  obtain rfl := Option.some.inj hM
                  exact hfin 775 _ _ _ dL_known_775 hz hP hD hS
                · have hM := if_t hM c_699
                  refine lv_aload_n hx hb dL_known_702 rfl (lv_at hl 0 rfl) ?_
                  obtain ⟨q_703, hc_703, hM⟩ := bd_some hM
                  refine w_callV cx hP hD hS hA (co_period g l h_p1 al_h_p1 q_695.2 hc_703) (blk 0 127) pf_C ob_nd (obx_f rfl) (OB g h_p1 al_h_p1 q_703.2 ++ []) pf_S 0 8 rfl rfl yq_X8_period rfl m_643 m_644 m_645 m_17 m_646 ⟨Nat.le_of_ble_eq_true rfl, Nat.le_of_ble_eq_true rfl⟩ rfl rfl hl.1 (Nat.le_of_ble_eq_true rfl) dL_known_703 ⟨Nat.le_refl 0, Nat.le_refl 0⟩ rfl (fun H locs hP hD hS => ?_)
                  refine lv_iconst (v := (nI 2)) hx hb dL_known_706 (by decide) ?_
                  refine lv_icmp_ne (tgt := 774) hx hb dL_known_707 (by decide) (fun c_707 => ?_) (fun c_707 => ?_)
                  · have hM := if_f hM c_707
                    refine lv_iconst (v := (nI 0)) hx hb dL_known_774 (by decide) ?_
                    have hz : bq (nI 0) = true := by decide
                    obtain rfl := Option.some.inj hM
                    exact hfin 775 _ _ _ dL_known_775 hz hP hD hS
                  · have hM := if_t hM c_707
                    refine lv_aload_n hx hb dL_known_710 rfl (lv_at hl 0 rfl) ?_
                    obtain ⟨q_711, hc_711, hM⟩ := bd_some hM
                    refine w_callV cx hP hD hS hA (co_edgeDegree g l h_p1 al_h_p1 q_703.2 hc_711) (blk 0 127) pf_C ob_nd (obx_f rfl) (OB g h_p1 al_h_p1 q_711.2 ++ []) pf_S 0 8 rfl rfl yq_X8_edgeDegree rfl m_607 m_608 m_609 m_17 m_610 ⟨Nat.le_of_ble_eq_true rfl, Nat.le_of_ble_eq_true rfl⟩ rfl rfl hl.1 (Nat.le_of_ble_eq_true rfl) dL_known_711 ⟨Nat.le_refl 0, Nat.le_refl 0⟩ rfl (fun H locs hP hD hS => ?_)
                    refine lv_bipush (v := (nI 6)) hx hb dL_known_714 (by decide) ?_
                    refine lv_icmp_ne (tgt := 774) hx hb dL_known_716 (by decide) (fun c_716 => ?_) (fun c_716 => ?_)
                    · have hM := if_f hM c_716
                      refine lv_iconst (v := (nI 0)) hx hb dL_known_774 (by decide) ?_
                      have hz : bq (nI 0) = true := by decide
                      obtain rfl := Option.some.inj hM
                      exact hfin 775 _ _ _ dL_known_775 hz hP hD hS
                    · have hM := if_t hM c_716
                      refine lv_aload_n hx hb dL_known_719 rfl (lv_at hl 0 rfl) ?_
                      refine lv_iconst (v := (nI 2)) hx hb dL_known_720 (by decide) ?_
                      refine lv_iconst (v := (nI 4)) hx hb dL_known_721 (by decide) ?_
                      refine lv_iconst (v := (nI 0)) hx hb dL_known_722 (by decide) ?_
                      obtain ⟨q_723, hc_723, hM⟩ := bd_some hM
                      refine w_callV cx hP hD hS hA (co_primeEdge g l h_p1 al_h_p1 (nI 2) (nI 4) (nI 0) q_711.2 hc_723) (blk 0 127) pf_C ob_nd (obx_f rfl) (OB g h_p1 al_h_p1 q_723.2 ++ []) pf_S 0 8 rfl rfl yq_X8_primeEdge rfl m_470 m_471 m_472 m_17 m_473 ⟨Nat.le_of_ble_eq_true rfl, Nat.le_of_ble_eq_true rfl⟩ rfl rfl hl.1 (Nat.le_of_ble_eq_true rfl) dL_known_723 ⟨Nat.le_refl 0, Nat.le_refl 0⟩ rfl (fun H locs hP hD hS => ?_)
                      refine lv_iconst (v := (nI 2)) hx hb dL_known_726 (by decide) ?_
                      refine lv_icmp_ne (tgt := 774) hx hb dL_known_727 (by decide) (fun c_727 => ?_) (fun c_727 => ?_)
                      · have hM := if_f hM c_727
                        refine lv_iconst (v := (nI 0)) hx hb dL_known_774 (by decide) ?_
                        have hz : bq (nI 0) = true := by decide
                        obtain rfl := Option.some.inj hM
                        exact hfin 775 _ _ _ dL_known_775 hz hP hD hS
                      · have hM := if_t hM c_727
                        refine lv_aload_n hx hb dL_known_730 rfl (lv_at hl 0 rfl) ?_
                        refine lv_iconst (v := (nI 2)) hx hb dL_known_731 (by decide) ?_
                        refine lv_iconst (v := (nI 4)) hx hb dL_known_732 (by decide) ?_
                        refine lv_iconst (v := (nI 1)) hx hb dL_known_733 (by decide) ?_
                        obtain ⟨q_734, hc_734, hM⟩ := bd_some hM
                        refine w_callV cx hP hD hS hA (co_primeEdge g l h_p1 al_h_p1 (nI 2) (nI 4) (nI 1) q_723.2 hc_734) (blk 0 127) pf_C ob_nd (obx_f rfl) (OB g h_p1 al_h_p1 q_734.2 ++ []) pf_S 0 8 rfl rfl yq_X8_primeEdge rfl m_470 m_471 m_472 m_17 m_473 ⟨Nat.le_of_ble_eq_true rfl, Nat.le_of_ble_eq_true rfl⟩ rfl rfl hl.1 (Nat.le_of_ble_eq_true rfl) dL_known_734 ⟨Nat.le_refl 0, Nat.le_refl 0⟩ rfl (fun H locs hP hD hS => ?_)
                        refine lv_iconst (v := (nI 5)) hx hb dL_known_737 (by decide) ?_
                        refine lv_icmp_ne (tgt := 774) hx hb dL_known_738 (by decide) (fun c_738 => ?_) (fun c_738 => ?_)
                        · have hM := if_f hM c_738
                          refine lv_iconst (v := (nI 0)) hx hb dL_known_774 (by decide) ?_
                          have hz : bq (nI 0) = true := by decide
                          obtain rfl := Option.some.inj hM
                          exact hfin 775 _ _ _ dL_known_775 hz hP hD hS
                        · have hM := if_t hM c_738
                          refine lv_aload_n hx hb dL_known_741 rfl (lv_at hl 0 rfl) ?_
                          refine lv_iconst (v := (nI 2)) hx hb dL_known_742 (by decide) ?_
                          refine lv_iconst (v := (nI 1)) hx hb dL_known_743 (by decide) ?_
                          obtain ⟨q_744, hc_744, hM⟩ := bd_some hM
                          refine w_callV cx hP hD hS hA (co_primeSign g l h_p1 al_h_p1 (nI 2) (nI 1) q_734.2 hc_744) (blk 0 127) pf_C ob_nd (obx_f rfl) (OB g h_p1 al_h_p1 q_744.2 ++ []) pf_S 0 8 rfl rfl yq_X8_primeSign rfl m_490 m_491 m_492 m_17 m_493 ⟨Nat.le_of_ble_eq_true rfl, Nat.le_of_ble_eq_true rfl⟩ rfl rfl hl.1 (Nat.le_of_ble_eq_true rfl) dL_known_744 ⟨Nat.le_refl 0, Nat.le_refl 0⟩ rfl (fun H locs hP hD hS => ?_)
                          refine lv_iconst (v := (nI 1)) hx hb dL_known_747 (by decide) ?_
                          refine lv_icmp_ne (tgt := 774) hx hb dL_known_748 (by decide) (fun c_748 => ?_) (fun c_748 => ?_)
                          · have hM := if_f hM c_748
                            refine lv_iconst (v := (nI 0)) hx hb dL_known_774 (by decide) ?_
                            have hz : bq (nI 0) = true := by decide
                            obtain rfl := Option.some.inj hM
                            exact hfin 775 _ _ _ dL_known_775 hz hP hD hS
                          · have hM := if_t hM c_748
                            refine lv_aload_n hx hb dL_known_751 rfl (lv_at hl 0 rfl) ?_
                            refine lv_iconst (v := (nI 2)) hx hb dL_known_752 (by decide) ?_
                            refine lv_iconst (v := (nI 0)) hx hb dL_known_753 (by decide) ?_
                            obtain ⟨q_754, hc_754, hM⟩ := bd_some hM
                            refine w_callV cx hP hD hS hA (co_primeSign g l h_p1 al_h_p1 (nI 2) (nI 0) q_744.2 hc_754) (blk 0 127) pf_C ob_nd (obx_f rfl) (OB g h_p1 al_h_p1 q_754.2 ++ []) pf_S 0 8 rfl rfl yq_X8_primeSign rfl m_490 m_491 m_492 m_17 m_493 ⟨Nat.le_of_ble_eq_true rfl, Nat.le_of_ble_eq_true rfl⟩ rfl rfl hl.1 (Nat.le_of_ble_eq_true rfl) dL_known_754 ⟨Nat.le_refl 0, Nat.le_refl 0⟩ rfl (fun H locs hP hD hS => ?_)
                            refine lv_iconst (v := (nI 4294967295)) hx hb dL_known_757 (by decide) ?_
                            refine lv_icmp_ne (tgt := 774) hx hb dL_known_758 (by decide) (fun c_758 => ?_) (fun c_758 => ?_)
                            · have hM := if_f hM c_758
                              refine lv_iconst (v := (nI 0)) hx hb dL_known_774 (by decide) ?_
                              have hz : bq (nI 0) = true := by decide
                              obtain rfl := Option.some.inj hM
                              exact hfin 775 _ _ _ dL_known_775 hz hP hD hS
                            · have hM := if_t hM c_758
                              refine lv_aload_n hx hb dL_known_761 rfl (lv_at hl 0 rfl) ?_
                              refine lv_iconst (v := (nI 2)) hx hb dL_known_762 (by decide) ?_
                              refine lv_bipush (v := (nI 6)) hx hb dL_known_763 (by decide) ?_
                              refine lv_iconst (v := (nI 1)) hx hb dL_known_765 (by decide) ?_
                              obtain ⟨q_766, hc_766, hM⟩ := bd_some hM
                              refine w_callV cx hP hD hS hA (co_primeEdge g l h_p1 al_h_p1 (nI 2) (nI 6) (nI 1) q_754.2 hc_766) (blk 0 127) pf_C ob_nd (obx_f rfl) (OB g h_p1 al_h_p1 q_766.2 ++ []) pf_S 0 8 rfl rfl yq_X8_primeEdge rfl m_470 m_471 m_472 m_17 m_473 ⟨Nat.le_of_ble_eq_true rfl, Nat.le_of_ble_eq_true rfl⟩ rfl rfl hl.1 (Nat.le_of_ble_eq_true rfl) dL_known_766 ⟨Nat.le_refl 0, Nat.le_refl 0⟩ rfl (fun H locs hP hD hS => ?_)
                              refine lv_bipush (v := (nI 4294967287)) hx hb dL_known_769 (by decide) ?_
                              refine lv_icmp_eq (tgt := 776) hx hb dL_known_771 (by decide) (fun c_771 => ?_) (fun c_771 => ?_)
                              · have hM := if_t hM c_771
                                exact hT_776 q_766.2 hM _ _ _ hP hD hS (lv_sub hl [0] rfl)
                              · have hM := if_f hM c_771
                                refine lv_iconst (v := (nI 0)) hx hb dL_known_774 (by decide) ?_
                                have hz : bq (nI 0) = true := by decide
                                obtain rfl := Option.some.inj hM
                                exact hfin 775 _ _ _ dL_known_775 hz hP hD hS
  have hT_511 : ∀ (wS_p1 : QS) (hM : t_L_known_511 wS_p1 = some R), ∀ (H : Heap) (locs : List Loc) (ls : Array Slot), va_P (gD g) vwCl (OB g h_p1 al_h_p1 wS_p1 ++ []) H → va_D A (OB g h_p1 al_h_p1 wS_p1 ++ []) → va_S A s.heap H locs → lv_has ls 1 [(0, .ref h_p1)] → W p l e (rmv 13 328) s m args below meth c H locs 0 0 Q (F0 m 511 ls []) := by
    intro wS_p1 hM H locs ls hP hD hS hl
    refine lv_aload_n hx hb dL_known_511 rfl (lv_at hl 0 rfl) ?_
    refine lv_iconst (v := (nI 2)) hx hb dL_known_512 (by decide) ?_
    obtain ⟨q_513, hc_513, hM⟩ := bd_some hM
    refine w_callV cx hP hD hS hA (co_configure g l h_p1 al_h_p1 (nI 2) wS_p1 hc_513) (blk 0 127) pf_C ob_nd (obx_f rfl) (OB g h_p1 al_h_p1 q_513.2 ++ []) pf_S 0 8 rfl rfl yq_X8_configure rfl m_339 m_340 m_341 m_17 m_342 ⟨Nat.le_of_ble_eq_true rfl, Nat.le_of_ble_eq_true rfl⟩ rfl rfl hl.1 (Nat.le_of_ble_eq_true rfl) dL_known_513 ⟨Nat.le_refl 0, Nat.le_refl 0⟩ rfl (fun H locs hP hD hS => ?_)
    refine lv_pop hx hb dL_known_516 rfl ?_
    refine lv_aload_n hx hb dL_known_517 rfl (lv_at hl 0 rfl) ?_
    refine lv_iconst (v := (nI 0)) hx hb dL_known_518 (by decide) ?_
    refine lv_iconst (v := (nI 1)) hx hb dL_known_519 (by decide) ?_
    refine lv_iconst (v := (nI 1)) hx hb dL_known_520 (by decide) ?_
    obtain ⟨q_521, hc_521, hM⟩ := bd_some hM
    refine w_callV cx hP hD hS hA (co_addEdge g l h_p1 al_h_p1 (nI 0) (nI 1) (nI 1) q_513.2 hc_521) (blk 0 127) pf_C ob_nd (obx_f rfl) (OB g h_p1 al_h_p1 q_521.2 ++ []) pf_S 0 8 rfl rfl yq_X8_addEdge rfl m_231 m_232 m_233 m_17 m_234 ⟨Nat.le_of_ble_eq_true rfl, Nat.le_of_ble_eq_true rfl⟩ rfl rfl hl.1 (Nat.le_of_ble_eq_true rfl) dL_known_521 ⟨Nat.le_refl 0, Nat.le_refl 0⟩ rfl (fun H locs hP hD hS => ?_)
    refine lv_if_ne (tgt := 622) hx hb dL_known_524 (by decide) (fun c_524 => ?_) (fun c_524 => ?_)
    · have hM := if_f hM c_524
      refine lv_iconst (v := (nI 0)) hx hb dL_known_622 (by decide) ?_
      have hz : bq (nI 0) = true := by decide
      obtain rfl := Option.some.inj hM
      exact hfin 623 _ _ _ dL_known_623 hz hP hD hS
    · have hM := if_t hM c_524
      refine lv_aload_n hx hb dL_known_527 rfl (lv_at hl 0 rfl) ?_
      refine lv_iconst (v := (nI 0)) hx hb dL_known_528 (by decide) ?_
      refine lv_iconst (v := (nI 1)) hx hb dL_known_529 (by decide) ?_
      refine lv_iconst (v := (nI 4294967295)) hx hb dL_known_530 (by decide) ?_
      obtain ⟨q_531, hc_531, hM⟩ := bd_some hM
      refine w_callV cx hP hD hS hA (co_addEdge g l h_p1 al_h_p1 (nI 0) (nI 1) (nI 4294967295) q_521.2 hc_531) (blk 0 127) pf_C ob_nd (obx_f rfl) (OB g h_p1 al_h_p1 q_531.2 ++ []) pf_S 0 8 rfl rfl yq_X8_addEdge rfl m_231 m_232 m_233 m_17 m_234 ⟨Nat.le_of_ble_eq_true rfl, Nat.le_of_ble_eq_true rfl⟩ rfl rfl hl.1 (Nat.le_of_ble_eq_true rfl) dL_known_531 ⟨Nat.le_refl 0, Nat.le_refl 0⟩ rfl (fun H locs hP hD hS => ?_)
      refine lv_iconst (v := (nI 1)) hx hb dL_known_534 (by decide) ?_
      refine lv_icmp_ne (tgt := 622) hx hb dL_known_535 (by decide) (fun c_535 => ?_) (fun c_535 => ?_)
      · have hM := if_f hM c_535
        refine lv_iconst (v := (nI 0)) hx hb dL_known_622 (by decide) ?_
        have hz : bq (nI 0) = true := by decide
        obtain rfl := Option.some.inj hM
        exact hfin 623 _ _ _ dL_known_623 hz hP hD hS
      · have hM := if_t hM c_535
        refine lv_aload_n hx hb dL_known_538 rfl (lv_at hl 0 rfl) ?_
        refine lv_iconst (v := (nI 0)) hx hb dL_known_539 (by decide) ?_
        refine lv_iconst (v := (nI 1)) hx hb dL_known_540 (by decide) ?_
        refine lv_iconst (v := (nI 1)) hx hb dL_known_541 (by decide) ?_
        obtain ⟨q_542, hc_542, hM⟩ := bd_some hM
        refine w_callV cx hP hD hS hA (co_addEdge g l h_p1 al_h_p1 (nI 0) (nI 1) (nI 1) q_531.2 hc_542) (blk 0 127) pf_C ob_nd (obx_f rfl) (OB g h_p1 al_h_p1 q_542.2 ++ []) pf_S 0 8 rfl rfl yq_X8_addEdge rfl m_231 m_232 m_233 m_17 m_234 ⟨Nat.le_of_ble_eq_true rfl, Nat.le_of_ble_eq_true rfl⟩ rfl rfl hl.1 (Nat.le_of_ble_eq_true rfl) dL_known_542 ⟨Nat.le_refl 0, Nat.le_refl 0⟩ rfl (fun H locs hP hD hS => ?_)
        refine lv_iconst (v := (nI 2)) hx hb dL_known_545 (by decide) ?_
        refine lv_icmp_ne (tgt := 622) hx hb dL_known_546 (by decide) (fun c_546 => ?_) (fun c_546 => ?_)
        · have hM := if_f hM c_546
          refine lv_iconst (v := (nI 0)) hx hb dL_known_622 (by decide) ?_
          have hz : bq (nI 0) = true := by decide
          obtain rfl := Option.some.inj hM
          exact hfin 623 _ _ _ dL_known_623 hz hP hD hS
        · have hM := if_t hM c_546
          refine lv_aload_n hx hb dL_known_549 rfl (lv_at hl 0 rfl) ?_
          refine lv_iconst (v := (nI 2)) hx hb dL_known_550 (by decide) ?_
          obtain ⟨q_551, hc_551, hM⟩ := bd_some hM
          refine w_callV cx hP hD hS hA (co_edgeCoefficient g l h_p1 al_h_p1 (nI 2) q_542.2 hc_551) (blk 0 127) pf_C ob_nd (obx_f rfl) (OB g h_p1 al_h_p1 q_551.2 ++ []) pf_S 0 8 rfl rfl yq_X8_edgeCoefficient rfl m_498 m_499 m_500 m_17 m_501 ⟨Nat.le_of_ble_eq_true rfl, Nat.le_of_ble_eq_true rfl⟩ rfl rfl hl.1 (Nat.le_of_ble_eq_true rfl) dL_known_551 ⟨Nat.le_refl 0, Nat.le_refl 0⟩ rfl (fun H locs hP hD hS => ?_)
          refine lv_ldc2 hx hb hown (hts _ m_592) dL_known_554 ?_
          refine W.lcmp hx hb dL_known_557 ?_
          refine lv_if_ne (tgt := 622) hx hb dL_known_558 (by decide) (fun c_558 => ?_) (fun c_558 => ?_)
          · have hM := if_f hM c_558
            refine lv_iconst (v := (nI 0)) hx hb dL_known_622 (by decide) ?_
            have hz : bq (nI 0) = true := by decide
            obtain rfl := Option.some.inj hM
            exact hfin 623 _ _ _ dL_known_623 hz hP hD hS
          · have hM := if_t hM c_558
            refine lv_aload_n hx hb dL_known_561 rfl (lv_at hl 0 rfl) ?_
            refine lv_iconst (v := (nI 4)) hx hb dL_known_562 (by decide) ?_
            obtain ⟨q_563, hc_563, hM⟩ := bd_some hM
            refine w_callV cx hP hD hS hA (co_edgeCoefficient g l h_p1 al_h_p1 (nI 4) q_551.2 hc_563) (blk 0 127) pf_C ob_nd (obx_f rfl) (OB g h_p1 al_h_p1 q_563.2 ++ []) pf_S 0 8 rfl rfl yq_X8_edgeCoefficient rfl m_498 m_499 m_500 m_17 m_501 ⟨Nat.le_of_ble_eq_true rfl, Nat.le_of_ble_eq_true rfl⟩ rfl rfl hl.1 (Nat.le_of_ble_eq_true rfl) dL_known_563 ⟨Nat.le_refl 0, Nat.le_refl 0⟩ rfl (fun H locs hP hD hS => ?_)
            refine lv_ldc2 hx hb hown (hts _ m_663) dL_known_566 ?_
            refine W.lcmp hx hb dL_known_569 ?_
            refine lv_if_ne (tgt := 622) hx hb dL_known_570 (by decide) (fun c_570 => ?_) (fun c_570 => ?_)
            · have hM := if_f hM c_570
              refine lv_iconst (v := (nI 0)) hx hb dL_known_622 (by decide) ?_
              have hz : bq (nI 0) = true := by decide
              obtain rfl := Option.some.inj hM
              exact hfin 623 _ _ _ dL_known_623 hz hP hD hS
            · have hM := if_t hM c_570
              refine lv_aload_n hx hb dL_known_573 rfl (lv_at hl 0 rfl) ?_
              refine lv_bipush (v := (nI 6)) hx hb dL_known_574 (by decide) ?_
              obtain ⟨q_576, hc_576, hM⟩ := bd_some hM
              refine w_callV cx hP hD hS hA (co_edgeCoefficient g l h_p1 al_h_p1 (nI 6) q_563.2 hc_576) (blk 0 127) pf_C ob_nd (obx_f rfl) (OB g h_p1 al_h_p1 q_576.2 ++ []) pf_S 0 8 rfl rfl yq_X8_edgeCoefficient rfl m_498 m_499 m_500 m_17 m_501 ⟨Nat.le_of_ble_eq_true rfl, Nat.le_of_ble_eq_true rfl⟩ rfl rfl hl.1 (Nat.le_of_ble_eq_true rfl) dL_known_576 ⟨Nat.le_refl 0, Nat.le_refl 0⟩ rfl (fun H locs hP hD hS => ?_)
              refine lv_ldc2 hx hb hown (hts _ m_664) dL_known_579 ?_
              refine W.lcmp hx hb dL_known_582 ?_
              refine lv_if_ne (tgt := 622) hx hb dL_known_583 (by decide) (fun c_583 => ?_) (fun c_583 => ?_)
              · have hM := if_f hM c_583
                refine lv_iconst (v := (nI 0)) hx hb dL_known_622 (by decide) ?_
                have hz : bq (nI 0) = true := by decide
                obtain rfl := Option.some.inj hM
                exact hfin 623 _ _ _ dL_known_623 hz hP hD hS
              · have hM := if_t hM c_583
                refine lv_aload_n hx hb dL_known_586 rfl (lv_at hl 0 rfl) ?_
                refine lv_iconst (v := (nI 2)) hx hb dL_known_587 (by decide) ?_
                obtain ⟨q_588, hc_588, hM⟩ := bd_some hM
                refine w_callV cx hP hD hS hA (co_vertexCoefficient g l h_p1 al_h_p1 (nI 2) q_576.2 hc_588) (blk 0 127) pf_C ob_nd (obx_f rfl) (OB g h_p1 al_h_p1 q_588.2 ++ []) pf_S 0 8 rfl rfl yq_X8_vertexCoefficient rfl m_517 m_518 m_519 m_17 m_520 ⟨Nat.le_of_ble_eq_true rfl, Nat.le_of_ble_eq_true rfl⟩ rfl rfl hl.1 (Nat.le_of_ble_eq_true rfl) dL_known_588 ⟨Nat.le_refl 0, Nat.le_refl 0⟩ rfl (fun H locs hP hD hS => ?_)
                refine lv_ldc2 hx hb hown (hts _ m_665) dL_known_591 ?_
                refine W.lcmp hx hb dL_known_594 ?_
                refine lv_if_ne (tgt := 622) hx hb dL_known_595 (by decide) (fun c_595 => ?_) (fun c_595 => ?_)
                · have hM := if_f hM c_595
                  refine lv_iconst (v := (nI 0)) hx hb dL_known_622 (by decide) ?_
                  have hz : bq (nI 0) = true := by decide
                  obtain rfl := Option.some.inj hM
                  exact hfin 623 _ _ _ dL_known_623 hz hP hD hS
                · have hM := if_t hM c_595
                  refine lv_aload_n hx hb dL_known_598 rfl (lv_at hl 0 rfl) ?_
                  refine lv_iconst (v := (nI 4)) hx hb dL_known_599 (by decide) ?_
                  obtain ⟨q_600, hc_600, hM⟩ := bd_some hM
                  refine w_callV cx hP hD hS hA (co_vertexCoefficient g l h_p1 al_h_p1 (nI 4) q_588.2 hc_600) (blk 0 127) pf_C ob_nd (obx_f rfl) (OB g h_p1 al_h_p1 q_600.2 ++ []) pf_S 0 8 rfl rfl yq_X8_vertexCoefficient rfl m_517 m_518 m_519 m_17 m_520 ⟨Nat.le_of_ble_eq_true rfl, Nat.le_of_ble_eq_true rfl⟩ rfl rfl hl.1 (Nat.le_of_ble_eq_true rfl) dL_known_600 ⟨Nat.le_refl 0, Nat.le_refl 0⟩ rfl (fun H locs hP hD hS => ?_)
                  refine lv_ldc2 hx hb hown (hts _ m_659) dL_known_603 ?_
                  refine W.lcmp hx hb dL_known_606 ?_
                  refine lv_if_ne (tgt := 622) hx hb dL_known_607 (by decide) (fun c_607 => ?_) (fun c_607 => ?_)
                  · have hM := if_f hM c_607
                    refine lv_iconst (v := (nI 0)) hx hb dL_known_622 (by decide) ?_
                    have hz : bq (nI 0) = true := by decide
                    obtain rfl := Option.some.inj hM
                    exact hfin 623 _ _ _ dL_known_623 hz hP hD hS
                  · have hM := if_t hM c_607
                    refine lv_aload_n hx hb dL_known_610 rfl (lv_at hl 0 rfl) ?_
                    refine lv_iconst (v := (nI 2)) hx hb dL_known_611 (by decide) ?_
                    obtain ⟨q_612, hc_612, hM⟩ := bd_some hM
                    refine w_callV cx hP hD hS hA (co_edgeValue g l h_p1 al_h_p1 (nI 2) q_600.2 hc_612) (blk 0 127) pf_C ob_nd (obx_f rfl) (OB g h_p1 al_h_p1 q_612.2 ++ []) pf_S 0 8 rfl rfl yq_X8_edgeValue rfl m_566 m_567 m_568 m_17 m_569 ⟨Nat.le_of_ble_eq_true rfl, Nat.le_of_ble_eq_true rfl⟩ rfl rfl hl.1 (Nat.le_of_ble_eq_true rfl) dL_known_612 ⟨Nat.le_refl 0, Nat.le_refl 0⟩ rfl (fun H locs hP hD hS => ?_)
                    refine lv_ldc2 hx hb hown (hts _ m_666) dL_known_615 ?_
                    refine W.lcmp hx hb dL_known_618 ?_
                    refine lv_if_eq (tgt := 624) hx hb dL_known_619 (by decide) (fun c_619 => ?_) (fun c_619 => ?_)
                    · have hM := if_t hM c_619
                      exact hT_624 q_612.2 hM _ _ _ hP hD hS (lv_sub hl [0] rfl)
                    · have hM := if_f hM c_619
                      refine lv_iconst (v := (nI 0)) hx hb dL_known_622 (by decide) ?_
                      have hz : bq (nI 0) = true := by decide
                      obtain rfl := Option.some.inj hM
                      exact hfin 623 _ _ _ dL_known_623 hz hP hD hS
  have hT_413 : ∀ (wS_p1 : QS) (hM : t_L_known_413 wS_p1 = some R), ∀ (H : Heap) (locs : List Loc) (ls : Array Slot), va_P (gD g) vwCl (OB g h_p1 al_h_p1 wS_p1 ++ []) H → va_D A (OB g h_p1 al_h_p1 wS_p1 ++ []) → va_S A s.heap H locs → lv_has ls 1 [(0, .ref h_p1)] → W p l e (rmv 13 328) s m args below meth c H locs 0 0 Q (F0 m 413 ls []) := by
    intro wS_p1 hM H locs ls hP hD hS hl
    refine lv_aload_n hx hb dL_known_413 rfl (lv_at hl 0 rfl) ?_
    refine lv_iconst (v := (nI 3)) hx hb dL_known_414 (by decide) ?_
    refine lv_iconst (v := (nI 0)) hx hb dL_known_415 (by decide) ?_
    refine lv_iconst (v := (nI 0)) hx hb dL_known_416 (by decide) ?_
    obtain ⟨q_417, hc_417, hM⟩ := bd_some hM
    refine w_callV cx hP hD hS hA (co_primeEdge g l h_p1 al_h_p1 (nI 3) (nI 0) (nI 0) wS_p1 hc_417) (blk 0 127) pf_C ob_nd (obx_f rfl) (OB g h_p1 al_h_p1 q_417.2 ++ []) pf_S 0 8 rfl rfl yq_X8_primeEdge rfl m_470 m_471 m_472 m_17 m_473 ⟨Nat.le_of_ble_eq_true rfl, Nat.le_of_ble_eq_true rfl⟩ rfl rfl hl.1 (Nat.le_of_ble_eq_true rfl) dL_known_417 ⟨Nat.le_refl 0, Nat.le_refl 0⟩ rfl (fun H locs hP hD hS => ?_)
    refine lv_if_ne (tgt := 509) hx hb dL_known_420 (by decide) (fun c_420 => ?_) (fun c_420 => ?_)
    · have hM := if_f hM c_420
      refine lv_iconst (v := (nI 0)) hx hb dL_known_509 (by decide) ?_
      have hz : bq (nI 0) = true := by decide
      obtain rfl := Option.some.inj hM
      exact hfin 510 _ _ _ dL_known_510 hz hP hD hS
    · have hM := if_t hM c_420
      refine lv_aload_n hx hb dL_known_423 rfl (lv_at hl 0 rfl) ?_
      refine lv_iconst (v := (nI 3)) hx hb dL_known_424 (by decide) ?_
      refine lv_iconst (v := (nI 0)) hx hb dL_known_425 (by decide) ?_
      refine lv_iconst (v := (nI 1)) hx hb dL_known_426 (by decide) ?_
      obtain ⟨q_427, hc_427, hM⟩ := bd_some hM
      refine w_callV cx hP hD hS hA (co_primeEdge g l h_p1 al_h_p1 (nI 3) (nI 0) (nI 1) q_417.2 hc_427) (blk 0 127) pf_C ob_nd (obx_f rfl) (OB g h_p1 al_h_p1 q_427.2 ++ []) pf_S 0 8 rfl rfl yq_X8_primeEdge rfl m_470 m_471 m_472 m_17 m_473 ⟨Nat.le_of_ble_eq_true rfl, Nat.le_of_ble_eq_true rfl⟩ rfl rfl hl.1 (Nat.le_of_ble_eq_true rfl) dL_known_427 ⟨Nat.le_refl 0, Nat.le_refl 0⟩ rfl (fun H locs hP hD hS => ?_)
      refine lv_iconst (v := (nI 3)) hx hb dL_known_430 (by decide) ?_
      refine lv_icmp_ne (tgt := 509) hx hb dL_known_431 (by decide) (fun c_431 => ?_) (fun c_431 => ?_)
      · have hM := if_f hM c_431
        refine lv_iconst (v := (nI 0)) hx hb dL_known_509 (by decide) ?_
        have hz : bq (nI 0) = true := by decide
        obtain rfl := Option.some.inj hM
        exact hfin 510 _ _ _ dL_known_510 hz hP hD hS
      · have hM := if_t hM c_431
        refine lv_aload_n hx hb dL_known_434 rfl (lv_at hl 0 rfl) ?_
        refine lv_iconst (v := (nI 3)) hx hb dL_known_435 (by decide) ?_
        refine lv_iconst (v := (nI 0)) hx hb dL_known_436 (by decide) ?_
        refine lv_iconst (v := (nI 2)) hx hb dL_known_437 (by decide) ?_
        obtain ⟨q_438, hc_438, hM⟩ := bd_some hM
        refine w_callV cx hP hD hS hA (co_primeEdge g l h_p1 al_h_p1 (nI 3) (nI 0) (nI 2) q_427.2 hc_438) (blk 0 127) pf_C ob_nd (obx_f rfl) (OB g h_p1 al_h_p1 q_438.2 ++ []) pf_S 0 8 rfl rfl yq_X8_primeEdge rfl m_470 m_471 m_472 m_17 m_473 ⟨Nat.le_of_ble_eq_true rfl, Nat.le_of_ble_eq_true rfl⟩ rfl rfl hl.1 (Nat.le_of_ble_eq_true rfl) dL_known_438 ⟨Nat.le_refl 0, Nat.le_refl 0⟩ rfl (fun H locs hP hD hS => ?_)
        refine lv_iconst (v := (nI 4)) hx hb dL_known_441 (by decide) ?_
        refine lv_icmp_ne (tgt := 509) hx hb dL_known_442 (by decide) (fun c_442 => ?_) (fun c_442 => ?_)
        · have hM := if_f hM c_442
          refine lv_iconst (v := (nI 0)) hx hb dL_known_509 (by decide) ?_
          have hz : bq (nI 0) = true := by decide
          obtain rfl := Option.some.inj hM
          exact hfin 510 _ _ _ dL_known_510 hz hP hD hS
        · have hM := if_t hM c_442
          refine lv_aload_n hx hb dL_known_445 rfl (lv_at hl 0 rfl) ?_
          refine lv_iconst (v := (nI 3)) hx hb dL_known_446 (by decide) ?_
          refine lv_iconst (v := (nI 1)) hx hb dL_known_447 (by decide) ?_
          refine lv_iconst (v := (nI 0)) hx hb dL_known_448 (by decide) ?_
          obtain ⟨q_449, hc_449, hM⟩ := bd_some hM
          refine w_callV cx hP hD hS hA (co_primeEdge g l h_p1 al_h_p1 (nI 3) (nI 1) (nI 0) q_438.2 hc_449) (blk 0 127) pf_C ob_nd (obx_f rfl) (OB g h_p1 al_h_p1 q_449.2 ++ []) pf_S 0 8 rfl rfl yq_X8_primeEdge rfl m_470 m_471 m_472 m_17 m_473 ⟨Nat.le_of_ble_eq_true rfl, Nat.le_of_ble_eq_true rfl⟩ rfl rfl hl.1 (Nat.le_of_ble_eq_true rfl) dL_known_449 ⟨Nat.le_refl 0, Nat.le_refl 0⟩ rfl (fun H locs hP hD hS => ?_)
          refine lv_iconst (v := (nI 1)) hx hb dL_known_452 (by decide) ?_
          refine lv_icmp_ne (tgt := 509) hx hb dL_known_453 (by decide) (fun c_453 => ?_) (fun c_453 => ?_)
          · have hM := if_f hM c_453
            refine lv_iconst (v := (nI 0)) hx hb dL_known_509 (by decide) ?_
            have hz : bq (nI 0) = true := by decide
            obtain rfl := Option.some.inj hM
            exact hfin 510 _ _ _ dL_known_510 hz hP hD hS
          · have hM := if_t hM c_453
            refine lv_aload_n hx hb dL_known_456 rfl (lv_at hl 0 rfl) ?_
            refine lv_iconst (v := (nI 3)) hx hb dL_known_457 (by decide) ?_
            refine lv_iconst (v := (nI 1)) hx hb dL_known_458 (by decide) ?_
            refine lv_iconst (v := (nI 1)) hx hb dL_known_459 (by decide) ?_
            obtain ⟨q_460, hc_460, hM⟩ := bd_some hM
            refine w_callV cx hP hD hS hA (co_primeEdge g l h_p1 al_h_p1 (nI 3) (nI 1) (nI 1) q_449.2 hc_460) (blk 0 127) pf_C ob_nd (obx_f rfl) (OB g h_p1 al_h_p1 q_460.2 ++ []) pf_S 0 8 rfl rfl yq_X8_primeEdge rfl m_470 m_471 m_472 m_17 m_473 ⟨Nat.le_of_ble_eq_true rfl, Nat.le_of_ble_eq_true rfl⟩ rfl rfl hl.1 (Nat.le_of_ble_eq_true rfl) dL_known_460 ⟨Nat.le_refl 0, Nat.le_refl 0⟩ rfl (fun H locs hP hD hS => ?_)
            refine lv_iconst (v := (nI 5)) hx hb dL_known_463 (by decide) ?_
            refine lv_icmp_ne (tgt := 509) hx hb dL_known_464 (by decide) (fun c_464 => ?_) (fun c_464 => ?_)
            · have hM := if_f hM c_464
              refine lv_iconst (v := (nI 0)) hx hb dL_known_509 (by decide) ?_
              have hz : bq (nI 0) = true := by decide
              obtain rfl := Option.some.inj hM
              exact hfin 510 _ _ _ dL_known_510 hz hP hD hS
            · have hM := if_t hM c_464
              refine lv_aload_n hx hb dL_known_467 rfl (lv_at hl 0 rfl) ?_
              refine lv_iconst (v := (nI 3)) hx hb dL_known_468 (by decide) ?_
              refine lv_iconst (v := (nI 1)) hx hb dL_known_469 (by decide) ?_
              refine lv_iconst (v := (nI 2)) hx hb dL_known_470 (by decide) ?_
              obtain ⟨q_471, hc_471, hM⟩ := bd_some hM
              refine w_callV cx hP hD hS hA (co_primeEdge g l h_p1 al_h_p1 (nI 3) (nI 1) (nI 2) q_460.2 hc_471) (blk 0 127) pf_C ob_nd (obx_f rfl) (OB g h_p1 al_h_p1 q_471.2 ++ []) pf_S 0 8 rfl rfl yq_X8_primeEdge rfl m_470 m_471 m_472 m_17 m_473 ⟨Nat.le_of_ble_eq_true rfl, Nat.le_of_ble_eq_true rfl⟩ rfl rfl hl.1 (Nat.le_of_ble_eq_true rfl) dL_known_471 ⟨Nat.le_refl 0, Nat.le_refl 0⟩ rfl (fun H locs hP hD hS => ?_)
              refine lv_iconst (v := (nI 2)) hx hb dL_known_474 (by decide) ?_
              refine lv_icmp_ne (tgt := 509) hx hb dL_known_475 (by decide) (fun c_475 => ?_) (fun c_475 => ?_)
              · have hM := if_f hM c_475
                refine lv_iconst (v := (nI 0)) hx hb dL_known_509 (by decide) ?_
                have hz : bq (nI 0) = true := by decide
                obtain rfl := Option.some.inj hM
                exact hfin 510 _ _ _ dL_known_510 hz hP hD hS
              · have hM := if_t hM c_475
                refine lv_aload_n hx hb dL_known_478 rfl (lv_at hl 0 rfl) ?_
                refine lv_iconst (v := (nI 3)) hx hb dL_known_479 (by decide) ?_
                refine lv_iconst (v := (nI 1)) hx hb dL_known_480 (by decide) ?_
                obtain ⟨q_481, hc_481, hM⟩ := bd_some hM
                refine w_callV cx hP hD hS hA (co_primeSign g l h_p1 al_h_p1 (nI 3) (nI 1) q_471.2 hc_481) (blk 0 127) pf_C ob_nd (obx_f rfl) (OB g h_p1 al_h_p1 q_481.2 ++ []) pf_S 0 8 rfl rfl yq_X8_primeSign rfl m_490 m_491 m_492 m_17 m_493 ⟨Nat.le_of_ble_eq_true rfl, Nat.le_of_ble_eq_true rfl⟩ rfl rfl hl.1 (Nat.le_of_ble_eq_true rfl) dL_known_481 ⟨Nat.le_refl 0, Nat.le_refl 0⟩ rfl (fun H locs hP hD hS => ?_)
                refine lv_iconst (v := (nI 4294967295)) hx hb dL_known_484 (by decide) ?_
                refine lv_icmp_ne (tgt := 509) hx hb dL_known_485 (by decide) (fun c_485 => ?_) (fun c_485 => ?_)
                · have hM := if_f hM c_485
                  refine lv_iconst (v := (nI 0)) hx hb dL_known_509 (by decide) ?_
                  have hz : bq (nI 0) = true := by decide
                  obtain rfl := Option.some.inj hM
                  exact hfin 510 _ _ _ dL_known_510 hz hP hD hS
                · have hM := if_t hM c_485
                  refine lv_aload_n hx hb dL_known_488 rfl (lv_at hl 0 rfl) ?_
                  refine lv_iconst (v := (nI 3)) hx hb dL_known_489 (by decide) ?_
                  refine lv_iconst (v := (nI 2)) hx hb dL_known_490 (by decide) ?_
                  refine lv_iconst (v := (nI 0)) hx hb dL_known_491 (by decide) ?_
                  obtain ⟨q_492, hc_492, hM⟩ := bd_some hM
                  refine w_callV cx hP hD hS hA (co_primeEdge g l h_p1 al_h_p1 (nI 3) (nI 2) (nI 0) q_481.2 hc_492) (blk 0 127) pf_C ob_nd (obx_f rfl) (OB g h_p1 al_h_p1 q_492.2 ++ []) pf_S 0 8 rfl rfl yq_X8_primeEdge rfl m_470 m_471 m_472 m_17 m_473 ⟨Nat.le_of_ble_eq_true rfl, Nat.le_of_ble_eq_true rfl⟩ rfl rfl hl.1 (Nat.le_of_ble_eq_true rfl) dL_known_492 ⟨Nat.le_refl 0, Nat.le_refl 0⟩ rfl (fun H locs hP hD hS => ?_)
                  refine lv_bipush (v := (nI 4294967287)) hx hb dL_known_495 (by decide) ?_
                  refine lv_icmp_ne (tgt := 509) hx hb dL_known_497 (by decide) (fun c_497 => ?_) (fun c_497 => ?_)
                  · have hM := if_f hM c_497
                    refine lv_iconst (v := (nI 0)) hx hb dL_known_509 (by decide) ?_
                    have hz : bq (nI 0) = true := by decide
                    obtain rfl := Option.some.inj hM
                    exact hfin 510 _ _ _ dL_known_510 hz hP hD hS
                  · have hM := if_t hM c_497
                    refine lv_aload_n hx hb dL_known_500 rfl (lv_at hl 0 rfl) ?_
                    refine lv_iconst (v := (nI 3)) hx hb dL_known_501 (by decide) ?_
                    refine lv_iconst (v := (nI 2)) hx hb dL_known_502 (by decide) ?_
                    obtain ⟨q_503, hc_503, hM⟩ := bd_some hM
                    refine w_callV cx hP hD hS hA (co_primeSign g l h_p1 al_h_p1 (nI 3) (nI 2) q_492.2 hc_503) (blk 0 127) pf_C ob_nd (obx_f rfl) (OB g h_p1 al_h_p1 q_503.2 ++ []) pf_S 0 8 rfl rfl yq_X8_primeSign rfl m_490 m_491 m_492 m_17 m_493 ⟨Nat.le_of_ble_eq_true rfl, Nat.le_of_ble_eq_true rfl⟩ rfl rfl hl.1 (Nat.le_of_ble_eq_true rfl) dL_known_503 ⟨Nat.le_refl 0, Nat.le_refl 0⟩ rfl (fun H locs hP hD hS => ?_)
                    refine lv_if_eq (tgt := 511) hx hb dL_known_506 (by decide) (fun c_506 => ?_) (fun c_506 => ?_)
                    · have hM := if_t hM c_506
                      exact hT_511 q_503.2 hM _ _ _ hP hD hS (lv_sub hl [0] rfl)
                    · have hM := if_f hM c_506
                      refine lv_iconst (v := (nI 0)) hx hb dL_known_509 (by decide) ?_
                      have hz : bq (nI 0) = true := by decide
                      obtain rfl := Option.some.inj hM
                      exact hfin 510 _ _ _ dL_known_510 hz hP hD hS
  have hT_278 : ∀ (wS_p1 : QS) (hM : t_L_known_278 wS_p1 = some R), ∀ (H : Heap) (locs : List Loc) (ls : Array Slot), va_P (gD g) vwCl (OB g h_p1 al_h_p1 wS_p1 ++ []) H → va_D A (OB g h_p1 al_h_p1 wS_p1 ++ []) → va_S A s.heap H locs → lv_has ls 1 [(0, .ref h_p1)] → W p l e (rmv 13 328) s m args below meth c H locs 0 0 Q (F0 m 278 ls []) := by
    intro wS_p1 hM H locs ls hP hD hS hl
    refine lv_aload_n hx hb dL_known_278 rfl (lv_at hl 0 rfl) ?_
    refine lv_iconst (v := (nI 3)) hx hb dL_known_279 (by decide) ?_
    obtain ⟨q_280, hc_280, hM⟩ := bd_some hM
    refine w_callV cx hP hD hS hA (co_walks g l h_p1 al_h_p1 (nI 3) wS_p1 hc_280) (blk 0 127) pf_C ob_nd (obx_f rfl) (OB g h_p1 al_h_p1 q_280.2 ++ []) pf_S 0 8 rfl rfl yq_X8_walks rfl m_388 m_389 m_390 m_17 m_391 ⟨Nat.le_of_ble_eq_true rfl, Nat.le_of_ble_eq_true rfl⟩ rfl rfl hl.1 (Nat.le_of_ble_eq_true rfl) dL_known_280 ⟨Nat.le_refl 0, Nat.le_refl 0⟩ rfl (fun H locs hP hD hS => ?_)
    refine lv_ldc2 hx hb hown (hts _ m_661) dL_known_283 ?_
    refine W.lcmp hx hb dL_known_286 ?_
    refine lv_if_ne (tgt := 411) hx hb dL_known_287 (by decide) (fun c_287 => ?_) (fun c_287 => ?_)
    · have hM := if_f hM c_287
      refine lv_iconst (v := (nI 0)) hx hb dL_known_411 (by decide) ?_
      have hz : bq (nI 0) = true := by decide
      obtain rfl := Option.some.inj hM
      exact hfin 412 _ _ _ dL_known_412 hz hP hD hS
    · have hM := if_t hM c_287
      refine lv_aload_n hx hb dL_known_290 rfl (lv_at hl 0 rfl) ?_
      refine lv_iconst (v := (nI 3)) hx hb dL_known_291 (by decide) ?_
      obtain ⟨q_292, hc_292, hM⟩ := bd_some hM
      refine w_callV cx hP hD hS hA (co_signedWalks g l h_p1 al_h_p1 (nI 3) q_280.2 hc_292) (blk 0 127) pf_C ob_nd (obx_f rfl) (OB g h_p1 al_h_p1 q_292.2 ++ []) pf_S 0 8 rfl rfl yq_X8_signedWalks rfl m_359 m_360 m_361 m_17 m_362 ⟨Nat.le_of_ble_eq_true rfl, Nat.le_of_ble_eq_true rfl⟩ rfl rfl hl.1 (Nat.le_of_ble_eq_true rfl) dL_known_292 ⟨Nat.le_refl 0, Nat.le_refl 0⟩ rfl (fun H locs hP hD hS => ?_)
      refine lv_ldc2 hx hb hown (hts _ m_592) dL_known_295 ?_
      refine W.lcmp hx hb dL_known_298 ?_
      refine lv_if_ne (tgt := 411) hx hb dL_known_299 (by decide) (fun c_299 => ?_) (fun c_299 => ?_)
      · have hM := if_f hM c_299
        refine lv_iconst (v := (nI 0)) hx hb dL_known_411 (by decide) ?_
        have hz : bq (nI 0) = true := by decide
        obtain rfl := Option.some.inj hM
        exact hfin 412 _ _ _ dL_known_412 hz hP hD hS
      · have hM := if_t hM c_299
        refine lv_aload_n hx hb dL_known_302 rfl (lv_at hl 0 rfl) ?_
        refine lv_iconst (v := (nI 3)) hx hb dL_known_303 (by decide) ?_
        obtain ⟨q_304, hc_304, hM⟩ := bd_some hM
        refine w_callV cx hP hD hS hA (co_coverWalks g l h_p1 al_h_p1 (nI 3) q_292.2 hc_304) (blk 0 127) pf_C ob_nd (obx_f rfl) (OB g h_p1 al_h_p1 q_304.2 ++ []) pf_S 0 8 rfl rfl yq_X8_coverWalks rfl m_446 m_447 m_448 m_17 m_449 ⟨Nat.le_of_ble_eq_true rfl, Nat.le_of_ble_eq_true rfl⟩ rfl rfl hl.1 (Nat.le_of_ble_eq_true rfl) dL_known_304 ⟨Nat.le_refl 0, Nat.le_refl 0⟩ rfl (fun H locs hP hD hS => ?_)
        refine lv_lconst (v := (0 : Int64)) hx hb dL_known_307 (by decide) ?_
        refine W.lcmp hx hb dL_known_308 ?_
        refine lv_if_ne (tgt := 411) hx hb dL_known_309 (by decide) (fun c_309 => ?_) (fun c_309 => ?_)
        · have hM := if_f hM c_309
          refine lv_iconst (v := (nI 0)) hx hb dL_known_411 (by decide) ?_
          have hz : bq (nI 0) = true := by decide
          obtain rfl := Option.some.inj hM
          exact hfin 412 _ _ _ dL_known_412 hz hP hD hS
        · have hM := if_t hM c_309
          refine lv_aload_n hx hb dL_known_312 rfl (lv_at hl 0 rfl) ?_
          refine lv_bipush (v := (nI 6)) hx hb dL_known_313 (by decide) ?_
          obtain ⟨q_315, hc_315, hM⟩ := bd_some hM
          refine w_callV cx hP hD hS hA (co_coverWalks g l h_p1 al_h_p1 (nI 6) q_304.2 hc_315) (blk 0 127) pf_C ob_nd (obx_f rfl) (OB g h_p1 al_h_p1 q_315.2 ++ []) pf_S 0 8 rfl rfl yq_X8_coverWalks rfl m_446 m_447 m_448 m_17 m_449 ⟨Nat.le_of_ble_eq_true rfl, Nat.le_of_ble_eq_true rfl⟩ rfl rfl hl.1 (Nat.le_of_ble_eq_true rfl) dL_known_315 ⟨Nat.le_refl 0, Nat.le_refl 0⟩ rfl (fun H locs hP hD hS => ?_)
          refine lv_ldc2 hx hb hown (hts _ m_662) dL_known_318 ?_
          refine W.lcmp hx hb dL_known_321 ?_
          refine lv_if_ne (tgt := 411) hx hb dL_known_322 (by decide) (fun c_322 => ?_) (fun c_322 => ?_)
          · have hM := if_f hM c_322
            refine lv_iconst (v := (nI 0)) hx hb dL_known_411 (by decide) ?_
            have hz : bq (nI 0) = true := by decide
            obtain rfl := Option.some.inj hM
            exact hfin 412 _ _ _ dL_known_412 hz hP hD hS
          · have hM := if_t hM c_322
            refine lv_aload_n hx hb dL_known_325 rfl (lv_at hl 0 rfl) ?_
            refine lv_iconst (v := (nI 3)) hx hb dL_known_326 (by decide) ?_
            obtain ⟨q_327, hc_327, hM⟩ := bd_some hM
            refine w_callV cx hP hD hS hA (co_primes g l h_p1 al_h_p1 (nI 3) q_315.2 hc_327) (blk 0 127) pf_C ob_nd (obx_f rfl) (OB g h_p1 al_h_p1 q_327.2 ++ []) pf_S 0 8 rfl rfl yq_X8_primes rfl m_450 m_451 m_452 m_17 m_453 ⟨Nat.le_of_ble_eq_true rfl, Nat.le_of_ble_eq_true rfl⟩ rfl rfl hl.1 (Nat.le_of_ble_eq_true rfl) dL_known_327 ⟨Nat.le_refl 0, Nat.le_refl 0⟩ rfl (fun H locs hP hD hS => ?_)
            refine lv_ldc2 hx hb hown (hts _ m_656) dL_known_330 ?_
            refine W.lcmp hx hb dL_known_333 ?_
            refine lv_if_ne (tgt := 411) hx hb dL_known_334 (by decide) (fun c_334 => ?_) (fun c_334 => ?_)
            · have hM := if_f hM c_334
              refine lv_iconst (v := (nI 0)) hx hb dL_known_411 (by decide) ?_
              have hz : bq (nI 0) = true := by decide
              obtain rfl := Option.some.inj hM
              exact hfin 412 _ _ _ dL_known_412 hz hP hD hS
            · have hM := if_t hM c_334
              refine lv_aload_n hx hb dL_known_337 rfl (lv_at hl 0 rfl) ?_
              refine lv_iconst (v := (nI 3)) hx hb dL_known_338 (by decide) ?_
              obtain ⟨q_339, hc_339, hM⟩ := bd_some hM
              refine w_callV cx hP hD hS hA (co_positivePrimes g l h_p1 al_h_p1 (nI 3) q_327.2 hc_339) (blk 0 127) pf_C ob_nd (obx_f rfl) (OB g h_p1 al_h_p1 q_339.2 ++ []) pf_S 0 8 rfl rfl yq_X8_positivePrimes rfl m_459 m_460 m_461 m_17 m_462 ⟨Nat.le_of_ble_eq_true rfl, Nat.le_of_ble_eq_true rfl⟩ rfl rfl hl.1 (Nat.le_of_ble_eq_true rfl) dL_known_339 ⟨Nat.le_refl 0, Nat.le_refl 0⟩ rfl (fun H locs hP hD hS => ?_)
              refine lv_lconst (v := (0 : Int64)) hx hb dL_known_342 (by decide) ?_
              refine W.lcmp hx hb dL_known_343 ?_
              refine lv_if_ne (tgt := 411) hx hb dL_known_344 (by decide) (fun c_344 => ?_) (fun c_344 => ?_)
              · have hM := if_f hM c_344
                refine lv_iconst (v := (nI 0)) hx hb dL_known_411 (by decide) ?_
                have hz : bq (nI 0) = true := by decide
                obtain rfl := Option.some.inj hM
                exact hfin 412 _ _ _ dL_known_412 hz hP hD hS
              · have hM := if_t hM c_344
                refine lv_aload_n hx hb dL_known_347 rfl (lv_at hl 0 rfl) ?_
                refine lv_bipush (v := (nI 6)) hx hb dL_known_348 (by decide) ?_
                obtain ⟨q_350, hc_350, hM⟩ := bd_some hM
                refine w_callV cx hP hD hS hA (co_primes g l h_p1 al_h_p1 (nI 6) q_339.2 hc_350) (blk 0 127) pf_C ob_nd (obx_f rfl) (OB g h_p1 al_h_p1 q_350.2 ++ []) pf_S 0 8 rfl rfl yq_X8_primes rfl m_450 m_451 m_452 m_17 m_453 ⟨Nat.le_of_ble_eq_true rfl, Nat.le_of_ble_eq_true rfl⟩ rfl rfl hl.1 (Nat.le_of_ble_eq_true rfl) dL_known_350 ⟨Nat.le_refl 0, Nat.le_refl 0⟩ rfl (fun H locs hP hD hS => ?_)
                refine lv_lconst (v := (0 : Int64)) hx hb dL_known_353 (by decide) ?_
                refine W.lcmp hx hb dL_known_354 ?_
                refine lv_if_ne (tgt := 411) hx hb dL_known_355 (by decide) (fun c_355 => ?_) (fun c_355 => ?_)
                · have hM := if_f hM c_355
                  refine lv_iconst (v := (nI 0)) hx hb dL_known_411 (by decide) ?_
                  have hz : bq (nI 0) = true := by decide
                  obtain rfl := Option.some.inj hM
                  exact hfin 412 _ _ _ dL_known_412 hz hP hD hS
                · have hM := if_t hM c_355
                  refine lv_aload_n hx hb dL_known_358 rfl (lv_at hl 0 rfl) ?_
                  obtain ⟨q_359, hc_359, hM⟩ := bd_some hM
                  refine w_callV cx hP hD hS hA (co_girth g l h_p1 al_h_p1 q_350.2 hc_359) (blk 0 127) pf_C ob_nd (obx_f rfl) (OB g h_p1 al_h_p1 q_359.2 ++ []) pf_S 0 8 rfl rfl yq_X8_girth rfl m_639 m_640 m_641 m_17 m_642 ⟨Nat.le_of_ble_eq_true rfl, Nat.le_of_ble_eq_true rfl⟩ rfl rfl hl.1 (Nat.le_of_ble_eq_true rfl) dL_known_359 ⟨Nat.le_refl 0, Nat.le_refl 0⟩ rfl (fun H locs hP hD hS => ?_)
                  refine lv_iconst (v := (nI 3)) hx hb dL_known_362 (by decide) ?_
                  refine lv_icmp_ne (tgt := 411) hx hb dL_known_363 (by decide) (fun c_363 => ?_) (fun c_363 => ?_)
                  · have hM := if_f hM c_363
                    refine lv_iconst (v := (nI 0)) hx hb dL_known_411 (by decide) ?_
                    have hz : bq (nI 0) = true := by decide
                    obtain rfl := Option.some.inj hM
                    exact hfin 412 _ _ _ dL_known_412 hz hP hD hS
                  · have hM := if_t hM c_363
                    refine lv_aload_n hx hb dL_known_366 rfl (lv_at hl 0 rfl) ?_
                    obtain ⟨q_367, hc_367, hM⟩ := bd_some hM
                    refine w_callV cx hP hD hS hA (co_period g l h_p1 al_h_p1 q_359.2 hc_367) (blk 0 127) pf_C ob_nd (obx_f rfl) (OB g h_p1 al_h_p1 q_367.2 ++ []) pf_S 0 8 rfl rfl yq_X8_period rfl m_643 m_644 m_645 m_17 m_646 ⟨Nat.le_of_ble_eq_true rfl, Nat.le_of_ble_eq_true rfl⟩ rfl rfl hl.1 (Nat.le_of_ble_eq_true rfl) dL_known_367 ⟨Nat.le_refl 0, Nat.le_refl 0⟩ rfl (fun H locs hP hD hS => ?_)
                    refine lv_iconst (v := (nI 3)) hx hb dL_known_370 (by decide) ?_
                    refine lv_icmp_ne (tgt := 411) hx hb dL_known_371 (by decide) (fun c_371 => ?_) (fun c_371 => ?_)
                    · have hM := if_f hM c_371
                      refine lv_iconst (v := (nI 0)) hx hb dL_known_411 (by decide) ?_
                      have hz : bq (nI 0) = true := by decide
                      obtain rfl := Option.some.inj hM
                      exact hfin 412 _ _ _ dL_known_412 hz hP hD hS
                    · have hM := if_t hM c_371
                      refine lv_aload_n hx hb dL_known_374 rfl (lv_at hl 0 rfl) ?_
                      obtain ⟨q_375, hc_375, hM⟩ := bd_some hM
                      refine w_callV cx hP hD hS hA (co_spanningTrees g l h_p1 al_h_p1 q_367.2 hc_375) (blk 0 127) pf_C ob_nd (obx_f rfl) (OB g h_p1 al_h_p1 q_375.2 ++ []) pf_S 0 8 rfl rfl yq_X8_spanningTrees rfl m_615 m_616 m_617 m_17 m_618 ⟨Nat.le_of_ble_eq_true rfl, Nat.le_of_ble_eq_true rfl⟩ rfl rfl hl.1 (Nat.le_of_ble_eq_true rfl) dL_known_375 ⟨Nat.le_refl 0, Nat.le_refl 0⟩ rfl (fun H locs hP hD hS => ?_)
                      refine lv_iconst (v := (nI 3)) hx hb dL_known_378 (by decide) ?_
                      refine lv_icmp_ne (tgt := 411) hx hb dL_known_379 (by decide) (fun c_379 => ?_) (fun c_379 => ?_)
                      · have hM := if_f hM c_379
                        refine lv_iconst (v := (nI 0)) hx hb dL_known_411 (by decide) ?_
                        have hz : bq (nI 0) = true := by decide
                        obtain rfl := Option.some.inj hM
                        exact hfin 412 _ _ _ dL_known_412 hz hP hD hS
                      · have hM := if_t hM c_379
                        refine lv_aload_n hx hb dL_known_382 rfl (lv_at hl 0 rfl) ?_
                        obtain ⟨q_383, hc_383, hM⟩ := bd_some hM
                        refine w_callV cx hP hD hS hA (co_isBalanced g l h_p1 al_h_p1 q_375.2 hc_383) (blk 0 127) pf_C ob_nd (obx_f rfl) (OB g h_p1 al_h_p1 q_383.2 ++ []) pf_S 0 8 rfl rfl yq_X8_isBalanced rfl m_396 m_397 m_398 m_17 m_399 ⟨Nat.le_of_ble_eq_true rfl, Nat.le_of_ble_eq_true rfl⟩ rfl rfl hl.1 (Nat.le_of_ble_eq_true rfl) dL_known_383 ⟨Nat.le_refl 0, Nat.le_refl 0⟩ rfl (fun H locs hP hD hS => ?_)
                        refine lv_if_ne (tgt := 411) hx hb dL_known_386 (by decide) (fun c_386 => ?_) (fun c_386 => ?_)
                        · have hM := if_f hM c_386
                          refine lv_iconst (v := (nI 0)) hx hb dL_known_411 (by decide) ?_
                          have hz : bq (nI 0) = true := by decide
                          obtain rfl := Option.some.inj hM
                          exact hfin 412 _ _ _ dL_known_412 hz hP hD hS
                        · have hM := if_t hM c_386
                          refine lv_aload_n hx hb dL_known_389 rfl (lv_at hl 0 rfl) ?_
                          refine lv_iconst (v := (nI 1)) hx hb dL_known_390 (by decide) ?_
                          obtain ⟨q_391, hc_391, hM⟩ := bd_some hM
                          refine w_callV cx hP hD hS hA (co_taylorAtOne g l h_p1 al_h_p1 (nI 1) q_383.2 hc_391) (blk 0 127) pf_C ob_nd (obx_f rfl) (OB g h_p1 al_h_p1 q_391.2 ++ []) pf_S 0 8 rfl rfl yq_X8_taylorAtOne rfl m_574 m_575 m_576 m_17 m_577 ⟨Nat.le_of_ble_eq_true rfl, Nat.le_of_ble_eq_true rfl⟩ rfl rfl hl.1 (Nat.le_of_ble_eq_true rfl) dL_known_391 ⟨Nat.le_refl 0, Nat.le_refl 0⟩ rfl (fun H locs hP hD hS => ?_)
                          refine lv_lconst (v := (0 : Int64)) hx hb dL_known_394 (by decide) ?_
                          refine W.lcmp hx hb dL_known_395 ?_
                          refine lv_if_ne (tgt := 411) hx hb dL_known_396 (by decide) (fun c_396 => ?_) (fun c_396 => ?_)
                          · have hM := if_f hM c_396
                            refine lv_iconst (v := (nI 0)) hx hb dL_known_411 (by decide) ?_
                            have hz : bq (nI 0) = true := by decide
                            obtain rfl := Option.some.inj hM
                            exact hfin 412 _ _ _ dL_known_412 hz hP hD hS
                          · have hM := if_t hM c_396
                            refine lv_aload_n hx hb dL_known_399 rfl (lv_at hl 0 rfl) ?_
                            refine lv_iconst (v := (nI 2)) hx hb dL_known_400 (by decide) ?_
                            obtain ⟨q_401, hc_401, hM⟩ := bd_some hM
                            refine w_callV cx hP hD hS hA (co_taylorAtOne g l h_p1 al_h_p1 (nI 2) q_391.2 hc_401) (blk 0 127) pf_C ob_nd (obx_f rfl) (OB g h_p1 al_h_p1 q_401.2 ++ []) pf_S 0 8 rfl rfl yq_X8_taylorAtOne rfl m_574 m_575 m_576 m_17 m_577 ⟨Nat.le_of_ble_eq_true rfl, Nat.le_of_ble_eq_true rfl⟩ rfl rfl hl.1 (Nat.le_of_ble_eq_true rfl) dL_known_401 ⟨Nat.le_refl 0, Nat.le_refl 0⟩ rfl (fun H locs hP hD hS => ?_)
                            refine lv_ldc2 hx hb hown (hts _ m_663) dL_known_404 ?_
                            refine W.lcmp hx hb dL_known_407 ?_
                            refine lv_if_eq (tgt := 413) hx hb dL_known_408 (by decide) (fun c_408 => ?_) (fun c_408 => ?_)
                            · have hM := if_t hM c_408
                              exact hT_413 q_401.2 hM _ _ _ hP hD hS (lv_sub hl [0] rfl)
                            · have hM := if_f hM c_408
                              refine lv_iconst (v := (nI 0)) hx hb dL_known_411 (by decide) ?_
                              have hz : bq (nI 0) = true := by decide
                              obtain rfl := Option.some.inj hM
                              exact hfin 412 _ _ _ dL_known_412 hz hP hD hS
  have hT_159 : ∀ (wS_p1 : QS) (hM : t_L_known_159 wS_p1 = some R), ∀ (H : Heap) (locs : List Loc) (ls : Array Slot), va_P (gD g) vwCl (OB g h_p1 al_h_p1 wS_p1 ++ []) H → va_D A (OB g h_p1 al_h_p1 wS_p1 ++ []) → va_S A s.heap H locs → lv_has ls 1 [(0, .ref h_p1)] → W p l e (rmv 13 328) s m args below meth c H locs 0 0 Q (F0 m 159 ls []) := by
    intro wS_p1 hM H locs ls hP hD hS hl
    refine lv_aload_n hx hb dL_known_159 rfl (lv_at hl 0 rfl) ?_
    refine lv_iconst (v := (nI 3)) hx hb dL_known_160 (by decide) ?_
    obtain ⟨q_161, hc_161, hM⟩ := bd_some hM
    refine w_callV cx hP hD hS hA (co_edgeCoefficient g l h_p1 al_h_p1 (nI 3) wS_p1 hc_161) (blk 0 127) pf_C ob_nd (obx_f rfl) (OB g h_p1 al_h_p1 q_161.2 ++ []) pf_S 0 8 rfl rfl yq_X8_edgeCoefficient rfl m_498 m_499 m_500 m_17 m_501 ⟨Nat.le_of_ble_eq_true rfl, Nat.le_of_ble_eq_true rfl⟩ rfl rfl hl.1 (Nat.le_of_ble_eq_true rfl) dL_known_161 ⟨Nat.le_refl 0, Nat.le_refl 0⟩ rfl (fun H locs hP hD hS => ?_)
    refine lv_ldc2 hx hb hown (hts _ m_655) dL_known_164 ?_
    refine W.lcmp hx hb dL_known_167 ?_
    refine lv_if_ne (tgt := 276) hx hb dL_known_168 (by decide) (fun c_168 => ?_) (fun c_168 => ?_)
    · have hM := if_f hM c_168
      refine lv_iconst (v := (nI 0)) hx hb dL_known_276 (by decide) ?_
      have hz : bq (nI 0) = true := by decide
      obtain rfl := Option.some.inj hM
      exact hfin 277 _ _ _ dL_known_277 hz hP hD hS
    · have hM := if_t hM c_168
      refine lv_aload_n hx hb dL_known_171 rfl (lv_at hl 0 rfl) ?_
      refine lv_bipush (v := (nI 6)) hx hb dL_known_172 (by decide) ?_
      obtain ⟨q_174, hc_174, hM⟩ := bd_some hM
      refine w_callV cx hP hD hS hA (co_edgeCoefficient g l h_p1 al_h_p1 (nI 6) q_161.2 hc_174) (blk 0 127) pf_C ob_nd (obx_f rfl) (OB g h_p1 al_h_p1 q_174.2 ++ []) pf_S 0 8 rfl rfl yq_X8_edgeCoefficient rfl m_498 m_499 m_500 m_17 m_501 ⟨Nat.le_of_ble_eq_true rfl, Nat.le_of_ble_eq_true rfl⟩ rfl rfl hl.1 (Nat.le_of_ble_eq_true rfl) dL_known_174 ⟨Nat.le_refl 0, Nat.le_refl 0⟩ rfl (fun H locs hP hD hS => ?_)
      refine lv_lconst (v := (1 : Int64)) hx hb dL_known_177 (by decide) ?_
      refine W.lcmp hx hb dL_known_178 ?_
      refine lv_if_ne (tgt := 276) hx hb dL_known_179 (by decide) (fun c_179 => ?_) (fun c_179 => ?_)
      · have hM := if_f hM c_179
        refine lv_iconst (v := (nI 0)) hx hb dL_known_276 (by decide) ?_
        have hz : bq (nI 0) = true := by decide
        obtain rfl := Option.some.inj hM
        exact hfin 277 _ _ _ dL_known_277 hz hP hD hS
      · have hM := if_t hM c_179
        refine lv_aload_n hx hb dL_known_182 rfl (lv_at hl 0 rfl) ?_
        refine lv_bipush (v := (nI 9)) hx hb dL_known_183 (by decide) ?_
        obtain ⟨q_185, hc_185, hM⟩ := bd_some hM
        refine w_callV cx hP hD hS hA (co_edgeCoefficient g l h_p1 al_h_p1 (nI 9) q_174.2 hc_185) (blk 0 127) pf_C ob_nd (obx_f rfl) (OB g h_p1 al_h_p1 q_185.2 ++ []) pf_S 0 8 rfl rfl yq_X8_edgeCoefficient rfl m_498 m_499 m_500 m_17 m_501 ⟨Nat.le_of_ble_eq_true rfl, Nat.le_of_ble_eq_true rfl⟩ rfl rfl hl.1 (Nat.le_of_ble_eq_true rfl) dL_known_185 ⟨Nat.le_refl 0, Nat.le_refl 0⟩ rfl (fun H locs hP hD hS => ?_)
        refine lv_lconst (v := (0 : Int64)) hx hb dL_known_188 (by decide) ?_
        refine W.lcmp hx hb dL_known_189 ?_
        refine lv_if_ne (tgt := 276) hx hb dL_known_190 (by decide) (fun c_190 => ?_) (fun c_190 => ?_)
        · have hM := if_f hM c_190
          refine lv_iconst (v := (nI 0)) hx hb dL_known_276 (by decide) ?_
          have hz : bq (nI 0) = true := by decide
          obtain rfl := Option.some.inj hM
          exact hfin 277 _ _ _ dL_known_277 hz hP hD hS
        · have hM := if_t hM c_190
          refine lv_aload_n hx hb dL_known_193 rfl (lv_at hl 0 rfl) ?_
          refine lv_iconst (v := (nI 3)) hx hb dL_known_194 (by decide) ?_
          obtain ⟨q_195, hc_195, hM⟩ := bd_some hM
          refine w_callV cx hP hD hS hA (co_signedCoefficient g l h_p1 al_h_p1 (nI 3) q_185.2 hc_195) (blk 0 127) pf_C ob_nd (obx_f rfl) (OB g h_p1 al_h_p1 q_195.2 ++ []) pf_S 0 8 rfl rfl yq_X8_signedCoefficient rfl m_513 m_514 m_515 m_17 m_516 ⟨Nat.le_of_ble_eq_true rfl, Nat.le_of_ble_eq_true rfl⟩ rfl rfl hl.1 (Nat.le_of_ble_eq_true rfl) dL_known_195 ⟨Nat.le_refl 0, Nat.le_refl 0⟩ rfl (fun H locs hP hD hS => ?_)
          refine lv_ldc2 hx hb hown (hts _ m_656) dL_known_198 ?_
          refine W.lcmp hx hb dL_known_201 ?_
          refine lv_if_ne (tgt := 276) hx hb dL_known_202 (by decide) (fun c_202 => ?_) (fun c_202 => ?_)
          · have hM := if_f hM c_202
            refine lv_iconst (v := (nI 0)) hx hb dL_known_276 (by decide) ?_
            have hz : bq (nI 0) = true := by decide
            obtain rfl := Option.some.inj hM
            exact hfin 277 _ _ _ dL_known_277 hz hP hD hS
          · have hM := if_t hM c_202
            refine lv_aload_n hx hb dL_known_205 rfl (lv_at hl 0 rfl) ?_
            refine lv_bipush (v := (nI 12)) hx hb dL_known_206 (by decide) ?_
            obtain ⟨q_208, hc_208, hM⟩ := bd_some hM
            refine w_callV cx hP hD hS hA (co_zetaCoefficient g l h_p1 al_h_p1 (nI 12) q_195.2 hc_208) (blk 0 127) pf_C ob_nd (obx_f rfl) (OB g h_p1 al_h_p1 q_208.2 ++ []) pf_S 0 8 rfl rfl yq_X8_zetaCoefficient rfl m_558 m_559 m_560 m_17 m_561 ⟨Nat.le_of_ble_eq_true rfl, Nat.le_of_ble_eq_true rfl⟩ rfl rfl hl.1 (Nat.le_of_ble_eq_true rfl) dL_known_208 ⟨Nat.le_refl 0, Nat.le_refl 0⟩ rfl (fun H locs hP hD hS => ?_)
            refine lv_ldc2 hx hb hown (hts _ m_657) dL_known_211 ?_
            refine W.lcmp hx hb dL_known_214 ?_
            refine lv_if_ne (tgt := 276) hx hb dL_known_215 (by decide) (fun c_215 => ?_) (fun c_215 => ?_)
            · have hM := if_f hM c_215
              refine lv_iconst (v := (nI 0)) hx hb dL_known_276 (by decide) ?_
              have hz : bq (nI 0) = true := by decide
              obtain rfl := Option.some.inj hM
              exact hfin 277 _ _ _ dL_known_277 hz hP hD hS
            · have hM := if_t hM c_215
              refine lv_aload_n hx hb dL_known_218 rfl (lv_at hl 0 rfl) ?_
              refine lv_bipush (v := (nI 11)) hx hb dL_known_219 (by decide) ?_
              obtain ⟨q_221, hc_221, hM⟩ := bd_some hM
              refine w_callV cx hP hD hS hA (co_zetaCoefficient g l h_p1 al_h_p1 (nI 11) q_208.2 hc_221) (blk 0 127) pf_C ob_nd (obx_f rfl) (OB g h_p1 al_h_p1 q_221.2 ++ []) pf_S 0 8 rfl rfl yq_X8_zetaCoefficient rfl m_558 m_559 m_560 m_17 m_561 ⟨Nat.le_of_ble_eq_true rfl, Nat.le_of_ble_eq_true rfl⟩ rfl rfl hl.1 (Nat.le_of_ble_eq_true rfl) dL_known_221 ⟨Nat.le_refl 0, Nat.le_refl 0⟩ rfl (fun H locs hP hD hS => ?_)
              refine lv_lconst (v := (0 : Int64)) hx hb dL_known_224 (by decide) ?_
              refine W.lcmp hx hb dL_known_225 ?_
              refine lv_if_ne (tgt := 276) hx hb dL_known_226 (by decide) (fun c_226 => ?_) (fun c_226 => ?_)
              · have hM := if_f hM c_226
                refine lv_iconst (v := (nI 0)) hx hb dL_known_276 (by decide) ?_
                have hz : bq (nI 0) = true := by decide
                obtain rfl := Option.some.inj hM
                exact hfin 277 _ _ _ dL_known_277 hz hP hD hS
              · have hM := if_t hM c_226
                refine lv_aload_n hx hb dL_known_229 rfl (lv_at hl 0 rfl) ?_
                refine lv_iconst (v := (nI 2)) hx hb dL_known_230 (by decide) ?_
                obtain ⟨q_231, hc_231, hM⟩ := bd_some hM
                refine w_callV cx hP hD hS hA (co_edgeValue g l h_p1 al_h_p1 (nI 2) q_221.2 hc_231) (blk 0 127) pf_C ob_nd (obx_f rfl) (OB g h_p1 al_h_p1 q_231.2 ++ []) pf_S 0 8 rfl rfl yq_X8_edgeValue rfl m_566 m_567 m_568 m_17 m_569 ⟨Nat.le_of_ble_eq_true rfl, Nat.le_of_ble_eq_true rfl⟩ rfl rfl hl.1 (Nat.le_of_ble_eq_true rfl) dL_known_231 ⟨Nat.le_refl 0, Nat.le_refl 0⟩ rfl (fun H locs hP hD hS => ?_)
                refine lv_ldc2 hx hb hown (hts _ m_658) dL_known_234 ?_
                refine W.lcmp hx hb dL_known_237 ?_
                refine lv_if_ne (tgt := 276) hx hb dL_known_238 (by decide) (fun c_238 => ?_) (fun c_238 => ?_)
                · have hM := if_f hM c_238
                  refine lv_iconst (v := (nI 0)) hx hb dL_known_276 (by decide) ?_
                  have hz : bq (nI 0) = true := by decide
                  obtain rfl := Option.some.inj hM
                  exact hfin 277 _ _ _ dL_known_277 hz hP hD hS
                · have hM := if_t hM c_238
                  refine lv_aload_n hx hb dL_known_241 rfl (lv_at hl 0 rfl) ?_
                  refine lv_iconst (v := (nI 4294967295)) hx hb dL_known_242 (by decide) ?_
                  obtain ⟨q_243, hc_243, hM⟩ := bd_some hM
                  refine w_callV cx hP hD hS hA (co_edgeValue g l h_p1 al_h_p1 (nI 4294967295) q_231.2 hc_243) (blk 0 127) pf_C ob_nd (obx_f rfl) (OB g h_p1 al_h_p1 q_243.2 ++ []) pf_S 0 8 rfl rfl yq_X8_edgeValue rfl m_566 m_567 m_568 m_17 m_569 ⟨Nat.le_of_ble_eq_true rfl, Nat.le_of_ble_eq_true rfl⟩ rfl rfl hl.1 (Nat.le_of_ble_eq_true rfl) dL_known_243 ⟨Nat.le_refl 0, Nat.le_refl 0⟩ rfl (fun H locs hP hD hS => ?_)
                  refine lv_ldc2 hx hb hown (hts _ m_659) dL_known_246 ?_
                  refine W.lcmp hx hb dL_known_249 ?_
                  refine lv_if_ne (tgt := 276) hx hb dL_known_250 (by decide) (fun c_250 => ?_) (fun c_250 => ?_)
                  · have hM := if_f hM c_250
                    refine lv_iconst (v := (nI 0)) hx hb dL_known_276 (by decide) ?_
                    have hz : bq (nI 0) = true := by decide
                    obtain rfl := Option.some.inj hM
                    exact hfin 277 _ _ _ dL_known_277 hz hP hD hS
                  · have hM := if_t hM c_250
                    refine lv_aload_n hx hb dL_known_253 rfl (lv_at hl 0 rfl) ?_
                    refine lv_bipush (v := (nI 4294967294)) hx hb dL_known_254 (by decide) ?_
                    obtain ⟨q_256, hc_256, hM⟩ := bd_some hM
                    refine w_callV cx hP hD hS hA (co_edgeValue g l h_p1 al_h_p1 (nI 4294967294) q_243.2 hc_256) (blk 0 127) pf_C ob_nd (obx_f rfl) (OB g h_p1 al_h_p1 q_256.2 ++ []) pf_S 0 8 rfl rfl yq_X8_edgeValue rfl m_566 m_567 m_568 m_17 m_569 ⟨Nat.le_of_ble_eq_true rfl, Nat.le_of_ble_eq_true rfl⟩ rfl rfl hl.1 (Nat.le_of_ble_eq_true rfl) dL_known_256 ⟨Nat.le_refl 0, Nat.le_refl 0⟩ rfl (fun H locs hP hD hS => ?_)
                    refine lv_ldc2 hx hb hown (hts _ m_660) dL_known_259 ?_
                    refine W.lcmp hx hb dL_known_262 ?_
                    refine lv_if_ne (tgt := 276) hx hb dL_known_263 (by decide) (fun c_263 => ?_) (fun c_263 => ?_)
                    · have hM := if_f hM c_263
                      refine lv_iconst (v := (nI 0)) hx hb dL_known_276 (by decide) ?_
                      have hz : bq (nI 0) = true := by decide
                      obtain rfl := Option.some.inj hM
                      exact hfin 277 _ _ _ dL_known_277 hz hP hD hS
                    · have hM := if_t hM c_263
                      refine lv_aload_n hx hb dL_known_266 rfl (lv_at hl 0 rfl) ?_
                      refine lv_iconst (v := (nI 0)) hx hb dL_known_267 (by decide) ?_
                      obtain ⟨q_268, hc_268, hM⟩ := bd_some hM
                      refine w_callV cx hP hD hS hA (co_edgeValue g l h_p1 al_h_p1 (nI 0) q_256.2 hc_268) (blk 0 127) pf_C ob_nd (obx_f rfl) (OB g h_p1 al_h_p1 q_268.2 ++ []) pf_S 0 8 rfl rfl yq_X8_edgeValue rfl m_566 m_567 m_568 m_17 m_569 ⟨Nat.le_of_ble_eq_true rfl, Nat.le_of_ble_eq_true rfl⟩ rfl rfl hl.1 (Nat.le_of_ble_eq_true rfl) dL_known_268 ⟨Nat.le_refl 0, Nat.le_refl 0⟩ rfl (fun H locs hP hD hS => ?_)
                      refine lv_lconst (v := (1 : Int64)) hx hb dL_known_271 (by decide) ?_
                      refine W.lcmp hx hb dL_known_272 ?_
                      refine lv_if_eq (tgt := 278) hx hb dL_known_273 (by decide) (fun c_273 => ?_) (fun c_273 => ?_)
                      · have hM := if_t hM c_273
                        exact hT_278 q_268.2 hM _ _ _ hP hD hS (lv_sub hl [0] rfl)
                      · have hM := if_f hM c_273
                        refine lv_iconst (v := (nI 0)) hx hb dL_known_276 (by decide) ?_
                        have hz : bq (nI 0) = true := by decide
                        obtain rfl := Option.some.inj hM
                        exact hfin 277 _ _ _ dL_known_277 hz hP hD hS
  have hT_110 : ∀ (wS_p1 : QS) (hM : t_L_known_110 wS_p1 = some R), ∀ (H : Heap) (locs : List Loc) (ls : Array Slot), va_P (gD g) vwCl (OB g h_p1 al_h_p1 wS_p1 ++ []) H → va_D A (OB g h_p1 al_h_p1 wS_p1 ++ []) → va_S A s.heap H locs → lv_has ls 1 [(0, .ref h_p1)] → W p l e (rmv 13 328) s m args below meth c H locs 0 0 Q (F0 m 110 ls []) := by
    intro wS_p1 hM H locs ls hP hD hS hl
    refine lv_aload_n hx hb dL_known_110 rfl (lv_at hl 0 rfl) ?_
    refine lv_iconst (v := (nI 0)) hx hb dL_known_111 (by decide) ?_
    refine lv_iconst (v := (nI 1)) hx hb dL_known_112 (by decide) ?_
    refine lv_iconst (v := (nI 1)) hx hb dL_known_113 (by decide) ?_
    obtain ⟨q_114, hc_114, hM⟩ := bd_some hM
    refine w_callV cx hP hD hS hA (co_addEdge g l h_p1 al_h_p1 (nI 0) (nI 1) (nI 1) wS_p1 hc_114) (blk 0 127) pf_C ob_nd (obx_f rfl) (OB g h_p1 al_h_p1 q_114.2 ++ []) pf_S 0 8 rfl rfl yq_X8_addEdge rfl m_231 m_232 m_233 m_17 m_234 ⟨Nat.le_of_ble_eq_true rfl, Nat.le_of_ble_eq_true rfl⟩ rfl rfl hl.1 (Nat.le_of_ble_eq_true rfl) dL_known_114 ⟨Nat.le_refl 0, Nat.le_refl 0⟩ rfl (fun H locs hP hD hS => ?_)
    refine lv_if_ne (tgt := 157) hx hb dL_known_117 (by decide) (fun c_117 => ?_) (fun c_117 => ?_)
    · have hM := if_f hM c_117
      refine lv_iconst (v := (nI 0)) hx hb dL_known_157 (by decide) ?_
      have hz : bq (nI 0) = true := by decide
      obtain rfl := Option.some.inj hM
      exact hfin 158 _ _ _ dL_known_158 hz hP hD hS
    · have hM := if_t hM c_117
      refine lv_aload_n hx hb dL_known_120 rfl (lv_at hl 0 rfl) ?_
      refine lv_iconst (v := (nI 2)) hx hb dL_known_121 (by decide) ?_
      refine lv_iconst (v := (nI 1)) hx hb dL_known_122 (by decide) ?_
      refine lv_iconst (v := (nI 1)) hx hb dL_known_123 (by decide) ?_
      obtain ⟨q_124, hc_124, hM⟩ := bd_some hM
      refine w_callV cx hP hD hS hA (co_addEdge g l h_p1 al_h_p1 (nI 2) (nI 1) (nI 1) q_114.2 hc_124) (blk 0 127) pf_C ob_nd (obx_f rfl) (OB g h_p1 al_h_p1 q_124.2 ++ []) pf_S 0 8 rfl rfl yq_X8_addEdge rfl m_231 m_232 m_233 m_17 m_234 ⟨Nat.le_of_ble_eq_true rfl, Nat.le_of_ble_eq_true rfl⟩ rfl rfl hl.1 (Nat.le_of_ble_eq_true rfl) dL_known_124 ⟨Nat.le_refl 0, Nat.le_refl 0⟩ rfl (fun H locs hP hD hS => ?_)
      refine lv_iconst (v := (nI 1)) hx hb dL_known_127 (by decide) ?_
      refine lv_icmp_ne (tgt := 157) hx hb dL_known_128 (by decide) (fun c_128 => ?_) (fun c_128 => ?_)
      · have hM := if_f hM c_128
        refine lv_iconst (v := (nI 0)) hx hb dL_known_157 (by decide) ?_
        have hz : bq (nI 0) = true := by decide
        obtain rfl := Option.some.inj hM
        exact hfin 158 _ _ _ dL_known_158 hz hP hD hS
      · have hM := if_t hM c_128
        refine lv_aload_n hx hb dL_known_131 rfl (lv_at hl 0 rfl) ?_
        obtain ⟨q_132, hc_132, hM⟩ := bd_some hM
        refine w_callV cx hP hD hS hA (co_spanningTrees g l h_p1 al_h_p1 q_124.2 hc_132) (blk 0 127) pf_C ob_nd (obx_f rfl) (OB g h_p1 al_h_p1 q_132.2 ++ []) pf_S 0 8 rfl rfl yq_X8_spanningTrees rfl m_615 m_616 m_617 m_17 m_618 ⟨Nat.le_of_ble_eq_true rfl, Nat.le_of_ble_eq_true rfl⟩ rfl rfl hl.1 (Nat.le_of_ble_eq_true rfl) dL_known_132 ⟨Nat.le_refl 0, Nat.le_refl 0⟩ rfl (fun H locs hP hD hS => ?_)
        refine lv_iconst (v := (nI 1)) hx hb dL_known_135 (by decide) ?_
        refine lv_icmp_ne (tgt := 157) hx hb dL_known_136 (by decide) (fun c_136 => ?_) (fun c_136 => ?_)
        · have hM := if_f hM c_136
          refine lv_iconst (v := (nI 0)) hx hb dL_known_157 (by decide) ?_
          have hz : bq (nI 0) = true := by decide
          obtain rfl := Option.some.inj hM
          exact hfin 158 _ _ _ dL_known_158 hz hP hD hS
        · have hM := if_t hM c_136
          refine lv_aload_n hx hb dL_known_139 rfl (lv_at hl 0 rfl) ?_
          obtain ⟨q_140, hc_140, hM⟩ := bd_some hM
          refine w_callV cx hP hD hS hA (co_rank g l h_p1 al_h_p1 q_132.2 hc_140) (blk 0 127) pf_C ob_nd (obx_f rfl) (OB g h_p1 al_h_p1 q_140.2 ++ []) pf_S 0 8 rfl rfl yq_X8_rank rfl m_651 m_652 m_653 m_17 m_654 ⟨Nat.le_of_ble_eq_true rfl, Nat.le_of_ble_eq_true rfl⟩ rfl rfl hl.1 (Nat.le_of_ble_eq_true rfl) dL_known_140 ⟨Nat.le_refl 0, Nat.le_refl 0⟩ rfl (fun H locs hP hD hS => ?_)
          refine lv_if_ne (tgt := 157) hx hb dL_known_143 (by decide) (fun c_143 => ?_) (fun c_143 => ?_)
          · have hM := if_f hM c_143
            refine lv_iconst (v := (nI 0)) hx hb dL_known_157 (by decide) ?_
            have hz : bq (nI 0) = true := by decide
            obtain rfl := Option.some.inj hM
            exact hfin 158 _ _ _ dL_known_158 hz hP hD hS
          · have hM := if_t hM c_143
            refine lv_aload_n hx hb dL_known_146 rfl (lv_at hl 0 rfl) ?_
            refine lv_iconst (v := (nI 2)) hx hb dL_known_147 (by decide) ?_
            refine lv_iconst (v := (nI 0)) hx hb dL_known_148 (by decide) ?_
            refine lv_iconst (v := (nI 4294967295)) hx hb dL_known_149 (by decide) ?_
            obtain ⟨q_150, hc_150, hM⟩ := bd_some hM
            refine w_callV cx hP hD hS hA (co_addEdge g l h_p1 al_h_p1 (nI 2) (nI 0) (nI 4294967295) q_140.2 hc_150) (blk 0 127) pf_C ob_nd (obx_f rfl) (OB g h_p1 al_h_p1 q_150.2 ++ []) pf_S 0 8 rfl rfl yq_X8_addEdge rfl m_231 m_232 m_233 m_17 m_234 ⟨Nat.le_of_ble_eq_true rfl, Nat.le_of_ble_eq_true rfl⟩ rfl rfl hl.1 (Nat.le_of_ble_eq_true rfl) dL_known_150 ⟨Nat.le_refl 0, Nat.le_refl 0⟩ rfl (fun H locs hP hD hS => ?_)
            refine lv_iconst (v := (nI 2)) hx hb dL_known_153 (by decide) ?_
            refine lv_icmp_eq (tgt := 159) hx hb dL_known_154 (by decide) (fun c_154 => ?_) (fun c_154 => ?_)
            · have hM := if_t hM c_154
              exact hT_159 q_150.2 hM _ _ _ hP hD hS (lv_sub hl [0] rfl)
            · have hM := if_f hM c_154
              refine lv_iconst (v := (nI 0)) hx hb dL_known_157 (by decide) ?_
              have hz : bq (nI 0) = true := by decide
              obtain rfl := Option.some.inj hM
              exact hfin 158 _ _ _ dL_known_158 hz hP hD hS
  have hS : va_S A s.heap s.heap [] := va_S.rf
  refine lv_aload_n hx hb dL_known_0 rfl (lv_at hl 0 rfl) ?_
  refine lv_iconst (v := (nI 3)) hx hb dL_known_1 (by decide) ?_
  obtain ⟨q_2, hc_2, hM⟩ := bd_some hM
  refine w_callV cx hP hD hS hA (co_configure g l h_p1 al_h_p1 (nI 3) S_p1 hc_2) (blk 0 127) pf_C ob_nd (obx_f rfl) (OB g h_p1 al_h_p1 q_2.2 ++ []) pf_S 0 8 rfl rfl yq_X8_configure rfl m_339 m_340 m_341 m_17 m_342 ⟨Nat.le_of_ble_eq_true rfl, Nat.le_of_ble_eq_true rfl⟩ rfl rfl hl.1 (Nat.le_of_ble_eq_true rfl) dL_known_2 ⟨Nat.le_refl 0, Nat.le_refl 0⟩ rfl (fun H locs hP hD hS => ?_)
  refine lv_pop hx hb dL_known_5 rfl ?_
  refine lv_aload_n hx hb dL_known_6 rfl (lv_at hl 0 rfl) ?_
  obtain ⟨q_7, hc_7, hM⟩ := bd_some hM
  refine w_callV cx hP hD hS hA (co_girth g l h_p1 al_h_p1 q_2.2 hc_7) (blk 0 127) pf_C ob_nd (obx_f rfl) (OB g h_p1 al_h_p1 q_7.2 ++ []) pf_S 0 8 rfl rfl yq_X8_girth rfl m_639 m_640 m_641 m_17 m_642 ⟨Nat.le_of_ble_eq_true rfl, Nat.le_of_ble_eq_true rfl⟩ rfl rfl hl.1 (Nat.le_of_ble_eq_true rfl) dL_known_7 ⟨Nat.le_refl 0, Nat.le_refl 0⟩ rfl (fun H locs hP hD hS => ?_)
  refine lv_bipush (v := (nI 4294967287)) hx hb dL_known_10 (by decide) ?_
  refine lv_icmp_ne (tgt := 108) hx hb dL_known_12 (by decide) (fun c_12 => ?_) (fun c_12 => ?_)
  · have hM := if_f hM c_12
    refine lv_iconst (v := (nI 0)) hx hb dL_known_108 (by decide) ?_
    have hz : bq (nI 0) = true := by decide
    obtain rfl := Option.some.inj hM
    exact hfin 109 _ _ _ dL_known_109 hz hP hD hS
  · have hM := if_t hM c_12
    refine lv_aload_n hx hb dL_known_15 rfl (lv_at hl 0 rfl) ?_
    obtain ⟨q_16, hc_16, hM⟩ := bd_some hM
    refine w_callV cx hP hD hS hA (co_period g l h_p1 al_h_p1 q_7.2 hc_16) (blk 0 127) pf_C ob_nd (obx_f rfl) (OB g h_p1 al_h_p1 q_16.2 ++ []) pf_S 0 8 rfl rfl yq_X8_period rfl m_643 m_644 m_645 m_17 m_646 ⟨Nat.le_of_ble_eq_true rfl, Nat.le_of_ble_eq_true rfl⟩ rfl rfl hl.1 (Nat.le_of_ble_eq_true rfl) dL_known_16 ⟨Nat.le_refl 0, Nat.le_refl 0⟩ rfl (fun H locs hP hD hS => ?_)
    refine lv_bipush (v := (nI 4294967287)) hx hb dL_known_19 (by decide) ?_
    refine lv_icmp_ne (tgt := 108) hx hb dL_known_21 (by decide) (fun c_21 => ?_) (fun c_21 => ?_)
    · have hM := if_f hM c_21
      refine lv_iconst (v := (nI 0)) hx hb dL_known_108 (by decide) ?_
      have hz : bq (nI 0) = true := by decide
      obtain rfl := Option.some.inj hM
      exact hfin 109 _ _ _ dL_known_109 hz hP hD hS
    · have hM := if_t hM c_21
      refine lv_aload_n hx hb dL_known_24 rfl (lv_at hl 0 rfl) ?_
      refine lv_iconst (v := (nI 0)) hx hb dL_known_25 (by decide) ?_
      obtain ⟨q_26, hc_26, hM⟩ := bd_some hM
      refine w_callV cx hP hD hS hA (co_edgeCoefficient g l h_p1 al_h_p1 (nI 0) q_16.2 hc_26) (blk 0 127) pf_C ob_nd (obx_f rfl) (OB g h_p1 al_h_p1 q_26.2 ++ []) pf_S 0 8 rfl rfl yq_X8_edgeCoefficient rfl m_498 m_499 m_500 m_17 m_501 ⟨Nat.le_of_ble_eq_true rfl, Nat.le_of_ble_eq_true rfl⟩ rfl rfl hl.1 (Nat.le_of_ble_eq_true rfl) dL_known_26 ⟨Nat.le_refl 0, Nat.le_refl 0⟩ rfl (fun H locs hP hD hS => ?_)
      refine lv_lconst (v := (1 : Int64)) hx hb dL_known_29 (by decide) ?_
      refine W.lcmp hx hb dL_known_30 ?_
      refine lv_if_ne (tgt := 108) hx hb dL_known_31 (by decide) (fun c_31 => ?_) (fun c_31 => ?_)
      · have hM := if_f hM c_31
        refine lv_iconst (v := (nI 0)) hx hb dL_known_108 (by decide) ?_
        have hz : bq (nI 0) = true := by decide
        obtain rfl := Option.some.inj hM
        exact hfin 109 _ _ _ dL_known_109 hz hP hD hS
      · have hM := if_t hM c_31
        refine lv_aload_n hx hb dL_known_34 rfl (lv_at hl 0 rfl) ?_
        refine lv_bipush (v := (nI 6)) hx hb dL_known_35 (by decide) ?_
        obtain ⟨q_37, hc_37, hM⟩ := bd_some hM
        refine w_callV cx hP hD hS hA (co_vertexCoefficient g l h_p1 al_h_p1 (nI 6) q_26.2 hc_37) (blk 0 127) pf_C ob_nd (obx_f rfl) (OB g h_p1 al_h_p1 q_37.2 ++ []) pf_S 0 8 rfl rfl yq_X8_vertexCoefficient rfl m_517 m_518 m_519 m_17 m_520 ⟨Nat.le_of_ble_eq_true rfl, Nat.le_of_ble_eq_true rfl⟩ rfl rfl hl.1 (Nat.le_of_ble_eq_true rfl) dL_known_37 ⟨Nat.le_refl 0, Nat.le_refl 0⟩ rfl (fun H locs hP hD hS => ?_)
        refine lv_ldc2 hx hb hown (hts _ m_650) dL_known_40 ?_
        refine W.lcmp hx hb dL_known_43 ?_
        refine lv_if_ne (tgt := 108) hx hb dL_known_44 (by decide) (fun c_44 => ?_) (fun c_44 => ?_)
        · have hM := if_f hM c_44
          refine lv_iconst (v := (nI 0)) hx hb dL_known_108 (by decide) ?_
          have hz : bq (nI 0) = true := by decide
          obtain rfl := Option.some.inj hM
          exact hfin 109 _ _ _ dL_known_109 hz hP hD hS
        · have hM := if_t hM c_44
          refine lv_aload_n hx hb dL_known_47 rfl (lv_at hl 0 rfl) ?_
          refine lv_iconst (v := (nI 0)) hx hb dL_known_48 (by decide) ?_
          obtain ⟨q_49, hc_49, hM⟩ := bd_some hM
          refine w_callV cx hP hD hS hA (co_bassCoefficient g l h_p1 al_h_p1 (nI 0) q_37.2 hc_49) (blk 0 127) pf_C ob_nd (obx_f rfl) (OB g h_p1 al_h_p1 q_49.2 ++ []) pf_S 0 8 rfl rfl yq_X8_bassCoefficient rfl m_550 m_551 m_552 m_17 m_553 ⟨Nat.le_of_ble_eq_true rfl, Nat.le_of_ble_eq_true rfl⟩ rfl rfl hl.1 (Nat.le_of_ble_eq_true rfl) dL_known_49 ⟨Nat.le_refl 0, Nat.le_refl 0⟩ rfl (fun H locs hP hD hS => ?_)
          refine lv_lconst (v := (1 : Int64)) hx hb dL_known_52 (by decide) ?_
          refine W.lcmp hx hb dL_known_53 ?_
          refine lv_if_ne (tgt := 108) hx hb dL_known_54 (by decide) (fun c_54 => ?_) (fun c_54 => ?_)
          · have hM := if_f hM c_54
            refine lv_iconst (v := (nI 0)) hx hb dL_known_108 (by decide) ?_
            have hz : bq (nI 0) = true := by decide
            obtain rfl := Option.some.inj hM
            exact hfin 109 _ _ _ dL_known_109 hz hP hD hS
          · have hM := if_t hM c_54
            refine lv_aload_n hx hb dL_known_57 rfl (lv_at hl 0 rfl) ?_
            refine lv_iconst (v := (nI 2)) hx hb dL_known_58 (by decide) ?_
            obtain ⟨q_59, hc_59, hM⟩ := bd_some hM
            refine w_callV cx hP hD hS hA (co_bassCoefficient g l h_p1 al_h_p1 (nI 2) q_49.2 hc_59) (blk 0 127) pf_C ob_nd (obx_f rfl) (OB g h_p1 al_h_p1 q_59.2 ++ []) pf_S 0 8 rfl rfl yq_X8_bassCoefficient rfl m_550 m_551 m_552 m_17 m_553 ⟨Nat.le_of_ble_eq_true rfl, Nat.le_of_ble_eq_true rfl⟩ rfl rfl hl.1 (Nat.le_of_ble_eq_true rfl) dL_known_59 ⟨Nat.le_refl 0, Nat.le_refl 0⟩ rfl (fun H locs hP hD hS => ?_)
            refine lv_lconst (v := (0 : Int64)) hx hb dL_known_62 (by decide) ?_
            refine W.lcmp hx hb dL_known_63 ?_
            refine lv_if_ne (tgt := 108) hx hb dL_known_64 (by decide) (fun c_64 => ?_) (fun c_64 => ?_)
            · have hM := if_f hM c_64
              refine lv_iconst (v := (nI 0)) hx hb dL_known_108 (by decide) ?_
              have hz : bq (nI 0) = true := by decide
              obtain rfl := Option.some.inj hM
              exact hfin 109 _ _ _ dL_known_109 hz hP hD hS
            · have hM := if_t hM c_64
              refine lv_aload_n hx hb dL_known_67 rfl (lv_at hl 0 rfl) ?_
              obtain ⟨q_68, hc_68, hM⟩ := bd_some hM
              refine w_callV cx hP hD hS hA (co_edgeDegree g l h_p1 al_h_p1 q_59.2 hc_68) (blk 0 127) pf_C ob_nd (obx_f rfl) (OB g h_p1 al_h_p1 q_68.2 ++ []) pf_S 0 8 rfl rfl yq_X8_edgeDegree rfl m_607 m_608 m_609 m_17 m_610 ⟨Nat.le_of_ble_eq_true rfl, Nat.le_of_ble_eq_true rfl⟩ rfl rfl hl.1 (Nat.le_of_ble_eq_true rfl) dL_known_68 ⟨Nat.le_refl 0, Nat.le_refl 0⟩ rfl (fun H locs hP hD hS => ?_)
              refine lv_if_ne (tgt := 108) hx hb dL_known_71 (by decide) (fun c_71 => ?_) (fun c_71 => ?_)
              · have hM := if_f hM c_71
                refine lv_iconst (v := (nI 0)) hx hb dL_known_108 (by decide) ?_
                have hz : bq (nI 0) = true := by decide
                obtain rfl := Option.some.inj hM
                exact hfin 109 _ _ _ dL_known_109 hz hP hD hS
              · have hM := if_t hM c_71
                refine lv_aload_n hx hb dL_known_74 rfl (lv_at hl 0 rfl) ?_
                obtain ⟨q_75, hc_75, hM⟩ := bd_some hM
                refine w_callV cx hP hD hS hA (co_isBalanced g l h_p1 al_h_p1 q_68.2 hc_75) (blk 0 127) pf_C ob_nd (obx_f rfl) (OB g h_p1 al_h_p1 q_75.2 ++ []) pf_S 0 8 rfl rfl yq_X8_isBalanced rfl m_396 m_397 m_398 m_17 m_399 ⟨Nat.le_of_ble_eq_true rfl, Nat.le_of_ble_eq_true rfl⟩ rfl rfl hl.1 (Nat.le_of_ble_eq_true rfl) dL_known_75 ⟨Nat.le_refl 0, Nat.le_refl 0⟩ rfl (fun H locs hP hD hS => ?_)
                refine lv_iconst (v := (nI 1)) hx hb dL_known_78 (by decide) ?_
                refine lv_icmp_ne (tgt := 108) hx hb dL_known_79 (by decide) (fun c_79 => ?_) (fun c_79 => ?_)
                · have hM := if_f hM c_79
                  refine lv_iconst (v := (nI 0)) hx hb dL_known_108 (by decide) ?_
                  have hz : bq (nI 0) = true := by decide
                  obtain rfl := Option.some.inj hM
                  exact hfin 109 _ _ _ dL_known_109 hz hP hD hS
                · have hM := if_t hM c_79
                  refine lv_aload_n hx hb dL_known_82 rfl (lv_at hl 0 rfl) ?_
                  obtain ⟨q_83, hc_83, hM⟩ := bd_some hM
                  refine w_callV cx hP hD hS hA (co_components g l h_p1 al_h_p1 q_75.2 hc_83) (blk 0 127) pf_C ob_nd (obx_f rfl) (OB g h_p1 al_h_p1 q_83.2 ++ []) pf_S 0 8 rfl rfl yq_X8_components rfl m_628 m_629 m_630 m_17 m_631 ⟨Nat.le_of_ble_eq_true rfl, Nat.le_of_ble_eq_true rfl⟩ rfl rfl hl.1 (Nat.le_of_ble_eq_true rfl) dL_known_83 ⟨Nat.le_refl 0, Nat.le_refl 0⟩ rfl (fun H locs hP hD hS => ?_)
                  refine lv_iconst (v := (nI 3)) hx hb dL_known_86 (by decide) ?_
                  refine lv_icmp_ne (tgt := 108) hx hb dL_known_87 (by decide) (fun c_87 => ?_) (fun c_87 => ?_)
                  · have hM := if_f hM c_87
                    refine lv_iconst (v := (nI 0)) hx hb dL_known_108 (by decide) ?_
                    have hz : bq (nI 0) = true := by decide
                    obtain rfl := Option.some.inj hM
                    exact hfin 109 _ _ _ dL_known_109 hz hP hD hS
                  · have hM := if_t hM c_87
                    refine lv_aload_n hx hb dL_known_90 rfl (lv_at hl 0 rfl) ?_
                    obtain ⟨q_91, hc_91, hM⟩ := bd_some hM
                    refine w_callV cx hP hD hS hA (co_rank g l h_p1 al_h_p1 q_83.2 hc_91) (blk 0 127) pf_C ob_nd (obx_f rfl) (OB g h_p1 al_h_p1 q_91.2 ++ []) pf_S 0 8 rfl rfl yq_X8_rank rfl m_651 m_652 m_653 m_17 m_654 ⟨Nat.le_of_ble_eq_true rfl, Nat.le_of_ble_eq_true rfl⟩ rfl rfl hl.1 (Nat.le_of_ble_eq_true rfl) dL_known_91 ⟨Nat.le_refl 0, Nat.le_refl 0⟩ rfl (fun H locs hP hD hS => ?_)
                    refine lv_if_ne (tgt := 108) hx hb dL_known_94 (by decide) (fun c_94 => ?_) (fun c_94 => ?_)
                    · have hM := if_f hM c_94
                      refine lv_iconst (v := (nI 0)) hx hb dL_known_108 (by decide) ?_
                      have hz : bq (nI 0) = true := by decide
                      obtain rfl := Option.some.inj hM
                      exact hfin 109 _ _ _ dL_known_109 hz hP hD hS
                    · have hM := if_t hM c_94
                      refine lv_aload_n hx hb dL_known_97 rfl (lv_at hl 0 rfl) ?_
                      refine lv_bipush (v := (nI 18)) hx hb dL_known_98 (by decide) ?_
                      obtain ⟨q_100, hc_100, hM⟩ := bd_some hM
                      refine w_callV cx hP hD hS hA (co_walks g l h_p1 al_h_p1 (nI 18) q_91.2 hc_100) (blk 0 127) pf_C ob_nd (obx_f rfl) (OB g h_p1 al_h_p1 q_100.2 ++ []) pf_S 0 8 rfl rfl yq_X8_walks rfl m_388 m_389 m_390 m_17 m_391 ⟨Nat.le_of_ble_eq_true rfl, Nat.le_of_ble_eq_true rfl⟩ rfl rfl hl.1 (Nat.le_of_ble_eq_true rfl) dL_known_100 ⟨Nat.le_refl 0, Nat.le_refl 0⟩ rfl (fun H locs hP hD hS => ?_)
                      refine lv_lconst (v := (0 : Int64)) hx hb dL_known_103 (by decide) ?_
                      refine W.lcmp hx hb dL_known_104 ?_
                      refine lv_if_eq (tgt := 110) hx hb dL_known_105 (by decide) (fun c_105 => ?_) (fun c_105 => ?_)
                      · have hM := if_t hM c_105
                        exact hT_110 q_100.2 hM _ _ _ hP hD hS (lv_sub hl [0] rfl)
                      · have hM := if_f hM c_105
                        refine lv_iconst (v := (nI 0)) hx hb dL_known_108 (by decide) ?_
                        have hz : bq (nI 0) = true := by decide
                        obtain rfl := Option.some.inj hM
                        exact hfin 109 _ _ _ dL_known_109 hz hP hD hS
