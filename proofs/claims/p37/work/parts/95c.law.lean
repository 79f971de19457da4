noncomputable def b_L_texts_358 : Int32 × QS → Option ((Int32 × QS) ⊕ ((QS))) := fun z_358 =>
  if (nI 9) ≤ z_358.1 then some (.inr z_358.2) else bd (f_L_types (808268091 : Int64) z_358.2) (fun (q_368 : Int32 × QS) => some (.inl (z_358.1 + (nI 1), q_368.2)))
noncomputable def t_L_texts_356 (wS_p1 : QS) : Option (Int32 × QS) :=
  bd (wh b_L_texts_358 ((nI 0), wS_p1)) (fun (r_358 : QS) => bd (o_loadGraph r_358) (fun (q_379 : Int32 × QS) => if q_379.1 = (nI 9) then bd (o_walks (nI 2) q_379.2) (fun (q_389 : Int64 × QS) => if (lg_cmp q_389.1 (144 : Int64)) = 0 then bd (o_walks (nI 18) q_389.2) (fun (q_402 : Int64 × QS) => nm (lg_cmp q_402.1 (36028797018963984 : Int64)) (fun (y_408 : Int32) => if y_408 = 0 then bd (o_addEdge (nI 2) (nI 3) (nI 1) q_402.2) (fun (q_416 : Int32 × QS) => if q_416.1 = (nI 4294967293) then bd (o_addEdge (nI 2) (nI 2) (nI 1) q_416.2) (fun (q_428 : Int32 × QS) => if q_428.1 = (nI 4294967295) then bd (o_edgeDegree q_428.2) (fun (q_436 : Int32 × QS) => if q_436.1 = (nI 18) then bd (o_spanningTrees q_436.2) (fun (q_445 : Int32 × QS) => if q_445.1 = 0 then bd (o_components q_445.2) (fun (q_452 : Int32 × QS) => if q_452.1 = (nI 3) then some ((nI 1), q_452.2) else some ((nI 0), q_452.2)) else some ((nI 0), q_445.2)) else some ((nI 0), q_436.2)) else some ((nI 0), q_428.2)) else some ((nI 0), q_416.2)) else some ((nI 0), q_402.2))) else some ((nI 0), q_389.2)) else some ((nI 0), q_379.2)))
noncomputable def b_L_texts_305 : QS → Option ((QS) ⊕ ((QS))) := fun z_305 =>
  bd (o_appendCharacter (nI 32) z_305) (fun (q_308 : Int32 × QS) => if q_308.1 ≤ 0 then some (.inr q_308.2) else bd (o_degree (nI 0) q_308.2) (fun (q_316 : Int32 × QS) => some (.inl q_316.2)))
noncomputable def b_L_texts_243 : Int32 × QS → Option ((Int32 × QS) ⊕ ((QS))) := fun z_243 =>
  if (nI 9) ≤ z_243.1 then some (.inr z_243.2) else bd (f_L_types (808268091 : Int64) z_243.2) (fun (q_253 : Int32 × QS) => some (.inl (z_243.1 + (nI 1), q_253.2)))
noncomputable def t_L_texts_241 (wS_p1 : QS) : Option (Int32 × QS) :=
  bd (wh b_L_texts_243 ((nI 0), wS_p1)) (fun (r_243 : QS) => bd (f_L_types (32 : Int64) r_243) (fun (q_267 : Int32 × QS) => if q_267.1 = (nI 37) then bd (f_L_types (48 : Int64) q_267.2) (fun (q_279 : Int32 × QS) => if q_279.1 = (nI 38) then bd (o_loadGraph q_279.2) (fun (q_288 : Int32 × QS) => if q_288.1 = (nI 4294967249) then bd (o_edgeCount q_288.2) (fun (q_297 : Int32 × QS) => if q_297.1 = 0 then bd (wh b_L_texts_305 q_297.2) (fun (r_305 : QS) => bd (o_appendCharacter (nI 300) r_305) (fun (q_327 : Int32 × QS) => if q_327.1 = (nI 4294967295) then bd (o_appendCharacter (nI 48) q_327.2) (fun (q_337 : Int32 × QS) => if q_337.1 = (nI 4294967293) then bd (o_clearText q_337.2) (fun (q_346 : Int32 × QS) => if q_346.1 = (nI 60) then t_L_texts_356 q_346.2 else some ((nI 0), q_346.2)) else some ((nI 0), q_337.2)) else some ((nI 0), q_327.2))) else some ((nI 0), q_297.2)) else some ((nI 0), q_288.2)) else some ((nI 0), q_279.2)) else some ((nI 0), q_267.2)))
noncomputable def t_L_texts_155 (wS_p1 : QS) : Option (Int32 × QS) :=
  bd (f_L_types (12330 : Int64) wS_p1) (fun (q_159 : Int32 × QS) => if q_159.1 = (nI 2) then bd (o_loadGraph q_159.2) (fun (q_167 : Int32 × QS) => if q_167.1 = (nI 4294967285) then bd (o_clearText q_167.2) (fun (q_176 : Int32 × QS) => if q_176.1 = (nI 2) then bd (f_L_types (808268064 : Int64) q_176.2) (fun (q_187 : Int32 × QS) => if q_187.1 = (nI 4) then bd (o_loadGraph q_187.2) (fun (q_195 : Int32 × QS) => if q_195.1 = (nI 4294967282) then bd (o_clearText q_195.2) (fun (q_204 : Int32 × QS) => if q_204.1 = (nI 4) then bd (f_L_types (808268077 : Int64) q_204.2) (fun (q_215 : Int32 × QS) => if q_215.1 = (nI 4) then bd (o_loadGraph q_215.2) (fun (q_223 : Int32 × QS) => if q_223.1 = (nI 4294967283) then bd (o_clearText q_223.2) (fun (q_232 : Int32 × QS) => if q_232.1 = (nI 4) then t_L_texts_241 q_232.2 else some ((nI 0), q_232.2)) else some ((nI 0), q_223.2)) else some ((nI 0), q_215.2)) else some ((nI 0), q_204.2)) else some ((nI 0), q_195.2)) else some ((nI 0), q_187.2)) else some ((nI 0), q_176.2)) else some ((nI 0), q_167.2)) else some ((nI 0), q_159.2))
noncomputable def t_L_texts_97 (wS_p1 : QS) : Option (Int32 × QS) :=
  bd (f_L_types (808268859 : Int64) wS_p1) (fun (q_101 : Int32 × QS) => if q_101.1 = (nI 4) then bd (o_loadGraph q_101.2) (fun (q_109 : Int32 × QS) => if q_109.1 = (nI 4294967284) then bd (o_clearText q_109.2) (fun (q_118 : Int32 × QS) => if q_118.1 = (nI 4) then bd (f_L_types (808267835 : Int64) q_118.2) (fun (q_129 : Int32 × QS) => if q_129.1 = (nI 4) then bd (o_loadGraph q_129.2) (fun (q_137 : Int32 × QS) => if q_137.1 = (nI 4294967284) then bd (o_clearText q_137.2) (fun (q_146 : Int32 × QS) => if q_146.1 = (nI 4) then t_L_texts_155 q_146.2 else some ((nI 0), q_146.2)) else some ((nI 0), q_137.2)) else some ((nI 0), q_129.2)) else some ((nI 0), q_118.2)) else some ((nI 0), q_109.2)) else some ((nI 0), q_101.2))
noncomputable def f_L_texts (S_p1 : QS) : Option (Int32 × QS) :=
  bd (o_configure (nI 4) S_p1) (fun (q_4 : Int32 × QS) => bd (f_L_types (3471485017785466418 : Int64) q_4.2) (fun (q_12 : Int32 × QS) => bd (f_L_types (2322485432718211872 : Int64) q_12.2) (fun (q_20 : Int32 × QS) => if q_20.1 = (nI 16) then bd (o_loadGraph q_20.2) (fun (q_29 : Int32 × QS) => if q_29.1 = (nI 3) then bd (o_edgeCount q_29.2) (fun (q_37 : Int32 × QS) => if q_37.1 = (nI 3) then bd (o_headOf (nI 2) q_37.2) (fun (q_46 : Int32 × QS) => if q_46.1 = (nI 2) then bd (o_headOf (nI 5) q_46.2) (fun (q_55 : Int32 × QS) => if q_55.1 = (nI 2) then bd (o_signedWalks (nI 3) q_55.2) (fun (q_64 : Int64 × QS) => if (lg_cmp q_64.1 (-6 : Int64)) = 0 then bd (o_loadGraph q_64.2) (fun (q_75 : Int32 × QS) => if q_75.1 = 0 then bd (o_edgeCount q_75.2) (fun (q_82 : Int32 × QS) => if q_82.1 = 0 then bd (o_clearText q_82.2) (fun (q_89 : Int32 × QS) => if q_89.1 = 0 then t_L_texts_97 q_89.2 else some ((nI 0), q_89.2)) else some ((nI 0), q_82.2)) else some ((nI 0), q_75.2)) else some ((nI 0), q_64.2)) else some ((nI 0), q_55.2)) else some ((nI 0), q_46.2)) else some ((nI 0), q_37.2)) else some ((nI 0), q_29.2)) else some ((nI 0), q_20.2))))
theorem yq_L_texts : yq yL_texts 1 := by unfold yq; decide +kernel
set_option maxHeartbeats 4000000 in
set_option maxRecDepth 100000 in
theorem c_L_texts (g : GG) (l : Launch) (h_p1 : Nat) (al_h_p1 : Nat → Nat) (S_p1 : QS) {R : Int32 × QS} (hM : f_L_texts S_p1 = some R) : CT g l yL_texts cL_texts 3 (some .boolean) 6 142 [.ref h_p1] (OB g h_p1 al_h_p1 S_p1 ++ []) (OB g h_p1 al_h_p1 R.2 ++ []) (some (.int R.1)) := by
  refine ct_z (by decide +kernel) (Nat.le_of_ble_eq_true rfl) ?_
  intro p e s m args below meth c Q A ls cx hP hD hA hl hfin
  obtain ⟨hx, hb, hml, hown, hts, hK⟩ := id cx
  have hl : lv_has ls 3 [(0, .ref h_p1)] := hl
  have hT_356 : ∀ (wS_p1 : QS) (hM : t_L_texts_356 wS_p1 = some R), ∀ (H : Heap) (locs : List Loc) (ls : Array Slot), va_P (gD g) vwCl (OB g h_p1 al_h_p1 wS_p1 ++ []) H → va_D A (OB g h_p1 al_h_p1 wS_p1 ++ []) → va_S A s.heap H locs → lv_has ls 3 [(1, .ref h_p1)] → W p l e (rmv 6 142) s m args below meth c H locs 0 0 Q (F0 m 356 ls []) := by
    intro wS_p1 hM H locs ls hP hD hS hl
    refine lv_iconst (v := (nI 0)) hx hb dL_texts_356 (by decide) ?_
    refine lv_istore_n (lv' := [(2, .int (nI 0)), (1, .ref h_p1)]) hx hb dL_texts_357 rfl hl (by decide) rfl (fun ls hl => ?_)
    obtain ⟨r_358, hw, hM⟩ := bd_some hM
    obtain ⟨n, hn⟩ := wh_some hw
    clear hw
    have hE_358_0 : ∀ (H : Heap) (locs : List Loc) (ls : Array Slot), va_P (gD g) vwCl (OB g h_p1 al_h_p1 r_358 ++ []) H → va_D A (OB g h_p1 al_h_p1 r_358 ++ []) → va_S A s.heap H locs → lv_has ls 3 [(1, .ref h_p1)] → W p l e (rmv 6 142) s m args below meth c H locs 0 0 Q (F0 m 378 ls []) := by
      intro H locs ls hP hD hS hl
      refine lv_aload_n hx hb dL_texts_378 rfl (lv_at hl 0 rfl) ?_
      obtain ⟨q_379, hc_379, hM⟩ := bd_some hM
      refine w_callV cx hP hD hS hA (co_loadGraph g l h_p1 al_h_p1 r_358 hc_379) (blk 0 127) pf_C ob_nd (obx_f rfl) (OB g h_p1 al_h_p1 q_379.2 ++ []) pf_S 0 8 rfl rfl yq_X8_loadGraph rfl m_276 m_277 m_278 m_17 m_279 ⟨Nat.le_of_ble_eq_true rfl, Nat.le_of_ble_eq_true rfl⟩ rfl rfl hl.1 (Nat.le_of_ble_eq_true rfl) dL_texts_379 ⟨Nat.le_refl 0, Nat.le_refl 0⟩ rfl (fun H locs hP hD hS => ?_)
      refine lv_bipush (v := (nI 9)) hx hb dL_texts_382 (by decide) ?_
      refine lv_icmp_ne (tgt := 463) hx hb dL_texts_384 (by decide) (fun c_384 => ?_) (fun c_384 => ?_)
      · have hM := if_f hM c_384
        refine lv_iconst (v := (nI 0)) hx hb dL_texts_463 (by decide) ?_
        have hz : bq (nI 0) = true := by decide
        obtain rfl := Option.some.inj hM
        exact hfin 464 _ _ _ dL_texts_464 hz hP hD hS
      · have hM := if_t hM c_384
        refine lv_aload_n hx hb dL_texts_387 rfl (lv_at hl 0 rfl) ?_
        refine lv_iconst (v := (nI 2)) hx hb dL_texts_388 (by decide) ?_
        obtain ⟨q_389, hc_389, hM⟩ := bd_some hM
        refine w_callV cx hP hD hS hA (co_walks g l h_p1 al_h_p1 (nI 2) q_379.2 hc_389) (blk 0 127) pf_C ob_nd (obx_f rfl) (OB g h_p1 al_h_p1 q_389.2 ++ []) pf_S 0 8 rfl rfl yq_X8_walks rfl m_388 m_389 m_390 m_17 m_391 ⟨Nat.le_of_ble_eq_true rfl, Nat.le_of_ble_eq_true rfl⟩ rfl rfl hl.1 (Nat.le_of_ble_eq_true rfl) dL_texts_389 ⟨Nat.le_refl 0, Nat.le_refl 0⟩ rfl (fun H locs hP hD hS => ?_)
        refine lv_ldc2 hx hb hown (hts _ m_605) dL_texts_392 ?_
        refine W.lcmp hx hb dL_texts_395 ?_
        refine lv_if_ne (tgt := 463) hx hb dL_texts_396 (by decide) (fun c_396 => ?_) (fun c_396 => ?_)
        · have hM := if_f hM c_396
          refine lv_iconst (v := (nI 0)) hx hb dL_texts_463 (by decide) ?_
          have hz : bq (nI 0) = true := by decide
          obtain rfl := Option.some.inj hM
          exact hfin 464 _ _ _ dL_texts_464 hz hP hD hS
        · have hM := if_t hM c_396
          refine lv_aload_n hx hb dL_texts_399 rfl (lv_at hl 0 rfl) ?_
          refine lv_bipush (v := (nI 18)) hx hb dL_texts_400 (by decide) ?_
          obtain ⟨q_402, hc_402, hM⟩ := bd_some hM
          refine w_callV cx hP hD hS hA (co_walks g l h_p1 al_h_p1 (nI 18) q_389.2 hc_402) (blk 0 127) pf_C ob_nd (obx_f rfl) (OB g h_p1 al_h_p1 q_402.2 ++ []) pf_S 0 8 rfl rfl yq_X8_walks rfl m_388 m_389 m_390 m_17 m_391 ⟨Nat.le_of_ble_eq_true rfl, Nat.le_of_ble_eq_true rfl⟩ rfl rfl hl.1 (Nat.le_of_ble_eq_true rfl) dL_texts_402 ⟨Nat.le_refl 0, Nat.le_refl 0⟩ rfl (fun H locs hP hD hS => ?_)
          refine lv_ldc2 hx hb hown (hts _ m_606) dL_texts_405 ?_
          refine W.lcmp hx hb dL_texts_408 ?_
          refine lv_topi (fun y_408 ey_408 => ?_)
          have hM := nm_some hM y_408 ey_408
          refine lv_if_ne (tgt := 463) hx hb dL_texts_409 (by decide) (fun c_409 => ?_) (fun c_409 => ?_)
          · have hM := if_f hM c_409
            refine lv_iconst (v := (nI 0)) hx hb dL_texts_463 (by decide) ?_
            have hz : bq (nI 0) = true := by decide
            obtain rfl := Option.some.inj hM
            exact hfin 464 _ _ _ dL_texts_464 hz hP hD hS
          · have hM := if_t hM c_409
            refine lv_aload_n hx hb dL_texts_412 rfl (lv_at hl 0 rfl) ?_
            refine lv_iconst (v := (nI 2)) hx hb dL_texts_413 (by decide) ?_
            refine lv_iconst (v := (nI 3)) hx hb dL_texts_414 (by decide) ?_
            refine lv_iconst (v := (nI 1)) hx hb dL_texts_415 (by decide) ?_
            obtain ⟨q_416, hc_416, hM⟩ := bd_some hM
            refine w_callV cx hP hD hS hA (co_addEdge g l h_p1 al_h_p1 (nI 2) (nI 3) (nI 1) q_402.2 hc_416) (blk 0 127) pf_C ob_nd (obx_f rfl) (OB g h_p1 al_h_p1 q_416.2 ++ []) pf_S 0 8 rfl rfl yq_X8_addEdge rfl m_231 m_232 m_233 m_17 m_234 ⟨Nat.le_of_ble_eq_true rfl, Nat.le_of_ble_eq_true rfl⟩ rfl rfl hl.1 (Nat.le_of_ble_eq_true rfl) dL_texts_416 ⟨Nat.le_refl 0, Nat.le_refl 0⟩ rfl (fun H locs hP hD hS => ?_)
            refine lv_bipush (v := (nI 4294967293)) hx hb dL_texts_419 (by decide) ?_
            refine lv_icmp_ne (tgt := 463) hx hb dL_texts_421 (by decide) (fun c_421 => ?_) (fun c_421 => ?_)
            · have hM := if_f hM c_421
              refine lv_iconst (v := (nI 0)) hx hb dL_texts_463 (by decide) ?_
              have hz : bq (nI 0) = true := by decide
              obtain rfl := Option.some.inj hM
              exact hfin 464 _ _ _ dL_texts_464 hz hP hD hS
            · have hM := if_t hM c_421
              refine lv_aload_n hx hb dL_texts_424 rfl (lv_at hl 0 rfl) ?_
              refine lv_iconst (v := (nI 2)) hx hb dL_texts_425 (by decide) ?_
              refine lv_iconst (v := (nI 2)) hx hb dL_texts_426 (by decide) ?_
              refine lv_iconst (v := (nI 1)) hx hb dL_texts_427 (by decide) ?_
              obtain ⟨q_428, hc_428, hM⟩ := bd_some hM
              refine w_callV cx hP hD hS hA (co_addEdge g l h_p1 al_h_p1 (nI 2) (nI 2) (nI 1) q_416.2 hc_428) (blk 0 127) pf_C ob_nd (obx_f rfl) (OB g h_p1 al_h_p1 q_428.2 ++ []) pf_S 0 8 rfl rfl yq_X8_addEdge rfl m_231 m_232 m_233 m_17 m_234 ⟨Nat.le_of_ble_eq_true rfl, Nat.le_of_ble_eq_true rfl⟩ rfl rfl hl.1 (Nat.le_of_ble_eq_true rfl) dL_texts_428 ⟨Nat.le_refl 0, Nat.le_refl 0⟩ rfl (fun H locs hP hD hS => ?_)
              refine lv_iconst (v := (nI 4294967295)) hx hb dL_texts_431 (by decide) ?_
              refine lv_icmp_ne (tgt := 463) hx hb dL_texts_432 (by decide) (fun c_432 => ?_) (fun c_432 => ?_)
              · have hM := if_f hM c_432
                refine lv_iconst (v := (nI 0)) hx hb dL_texts_463 (by decide) ?_
                have hz : bq (nI 0) = true := by decide
                obtain rfl := Option.some.inj hM
                exact hfin 464 _ _ _ dL_texts_464 hz hP hD hS
              · have hM := if_t hM c_432
                refine lv_aload_n hx hb dL_texts_435 rfl (lv_at hl 0 rfl) ?_
                obtain ⟨q_436, hc_436, hM⟩ := bd_some hM
                refine w_callV cx hP hD hS hA (co_edgeDegree g l h_p1 al_h_p1 q_428.2 hc_436) (blk 0 127) pf_C ob_nd (obx_f rfl) (OB g h_p1 al_h_p1 q_436.2 ++ []) pf_S 0 8 rfl rfl yq_X8_edgeDegree rfl m_607 m_608 m_609 m_17 m_610 ⟨Nat.le_of_ble_eq_true rfl, Nat.le_of_ble_eq_true rfl⟩ rfl rfl hl.1 (Nat.le_of_ble_eq_true rfl) dL_texts_436 ⟨Nat.le_refl 0, Nat.le_refl 0⟩ rfl (fun H locs hP hD hS => ?_)
                refine lv_bipush (v := (nI 18)) hx hb dL_texts_439 (by decide) ?_
                refine lv_icmp_ne (tgt := 463) hx hb dL_texts_441 (by decide) (fun c_441 => ?_) (fun c_441 => ?_)
                · have hM := if_f hM c_441
                  refine lv_iconst (v := (nI 0)) hx hb dL_texts_463 (by decide) ?_
                  have hz : bq (nI 0) = true := by decide
                  obtain rfl := Option.some.inj hM
                  exact hfin 464 _ _ _ dL_texts_464 hz hP hD hS
                · have hM := if_t hM c_441
                  refine lv_aload_n hx hb dL_texts_444 rfl (lv_at hl 0 rfl) ?_
                  obtain ⟨q_445, hc_445, hM⟩ := bd_some hM
                  refine w_callV cx hP hD hS hA (co_spanningTrees g l h_p1 al_h_p1 q_436.2 hc_445) (blk 0 127) pf_C ob_nd (obx_f rfl) (OB g h_p1 al_h_p1 q_445.2 ++ []) pf_S 0 8 rfl rfl yq_X8_spanningTrees rfl m_615 m_616 m_617 m_17 m_618 ⟨Nat.le_of_ble_eq_true rfl, Nat.le_of_ble_eq_true rfl⟩ rfl rfl hl.1 (Nat.le_of_ble_eq_true rfl) dL_texts_445 ⟨Nat.le_refl 0, Nat.le_refl 0⟩ rfl (fun H locs hP hD hS => ?_)
                  refine lv_if_ne (tgt := 463) hx hb dL_texts_448 (by decide) (fun c_448 => ?_) (fun c_448 => ?_)
                  · have hM := if_f hM c_448
                    refine lv_iconst (v := (nI 0)) hx hb dL_texts_463 (by decide) ?_
                    have hz : bq (nI 0) = true := by decide
                    obtain rfl := Option.some.inj hM
                    exact hfin 464 _ _ _ dL_texts_464 hz hP hD hS
                  · have hM := if_t hM c_448
                    refine lv_aload_n hx hb dL_texts_451 rfl (lv_at hl 0 rfl) ?_
                    obtain ⟨q_452, hc_452, hM⟩ := bd_some hM
                    refine w_callV cx hP hD hS hA (co_components g l h_p1 al_h_p1 q_445.2 hc_452) (blk 0 127) pf_C ob_nd (obx_f rfl) (OB g h_p1 al_h_p1 q_452.2 ++ []) pf_S 0 8 rfl rfl yq_X8_components rfl m_628 m_629 m_630 m_17 m_631 ⟨Nat.le_of_ble_eq_true rfl, Nat.le_of_ble_eq_true rfl⟩ rfl rfl hl.1 (Nat.le_of_ble_eq_true rfl) dL_texts_452 ⟨Nat.le_refl 0, Nat.le_refl 0⟩ rfl (fun H locs hP hD hS => ?_)
                    refine lv_iconst (v := (nI 3)) hx hb dL_texts_455 (by decide) ?_
                    refine lv_icmp_ne (tgt := 463) hx hb dL_texts_456 (by decide) (fun c_456 => ?_) (fun c_456 => ?_)
                    · have hM := if_f hM c_456
                      refine lv_iconst (v := (nI 0)) hx hb dL_texts_463 (by decide) ?_
                      have hz : bq (nI 0) = true := by decide
                      obtain rfl := Option.some.inj hM
                      exact hfin 464 _ _ _ dL_texts_464 hz hP hD hS
                    · have hM := if_t hM c_456
                      refine lv_iconst (v := (nI 1)) hx hb dL_texts_459 (by decide) ?_
                      refine lv_goto (tgt := 464) hx hb dL_texts_460 (by decide) ?_
                      have hz : bq (nI 1) = true := by decide
                      obtain rfl := Option.some.inj hM
                      exact hfin 464 _ _ _ dL_texts_464 hz hP hD hS
    clear hM
    have hL_358 : ∀ (n : Nat) (z_358 : Int32 × QS), it b_L_texts_358 n z_358 = some r_358 → ∀ (H : Heap) (locs : List Loc) (ls : Array Slot), va_P (gD g) vwCl (OB g h_p1 al_h_p1 z_358.2 ++ []) H → va_D A (OB g h_p1 al_h_p1 z_358.2 ++ []) → va_S A s.heap H locs → lv_has ls 3 [(2, .int z_358.1), (1, .ref h_p1)] → W p l e (rmv 6 142) s m args below meth c H locs 0 0 Q (F0 m 358 ls []) := by
      intro n
      induction n with
      | zero => intro z_358 hn; exact (it_zero hn).elim
      | succ n ih =>
        intro z_358 hn H locs ls hP hD hS hl
        obtain ⟨x, hM, hX⟩ := it_succ hn
        clear hn
        refine lv_iload_n hx hb dL_texts_358 rfl (lv_at hl 0 rfl) ?_
        refine lv_bipush (v := (nI 9)) hx hb dL_texts_359 (by decide) ?_
        refine lv_icmp_ge (tgt := 378) hx hb dL_texts_361 (by decide) (fun c_361 => ?_) (fun c_361 => ?_)
        · have hM := if_t hM c_361
          obtain rfl := Option.some.inj hM
          obtain rfl : _ = r_358 := hX
          exact hE_358_0 _ _ _ hP hD hS (lv_sub hl [1] rfl)
        · have hM := if_f hM c_361
          refine lv_aload_n hx hb dL_texts_364 rfl (lv_at hl 1 rfl) ?_
          refine lv_ldc2 hx hb hown (hts _ m_602) dL_texts_365 ?_
          obtain ⟨q_368, hc_368, hM⟩ := bd_some hM
          refine w_callS cx hP hD hS hA (c_L_types g l h_p1 al_h_p1 (808268091 : Int64) z_358.2 hc_368) (blk 0 127) pf_C ob_nd (obx_f rfl) (OB g h_p1 al_h_p1 q_368.2 ++ []) pf_S yq_L_types m_587 m_588 m_16 m_589 ⟨Nat.le_of_ble_eq_true rfl, Nat.le_of_ble_eq_true rfl⟩ rfl rfl hl.1 (Nat.le_of_ble_eq_true rfl) dL_texts_368 ⟨Nat.le_refl 0, Nat.le_refl 0⟩ rfl (fun H locs hP hD hS => ?_)
          refine lv_pop hx hb dL_texts_371 rfl ?_
          refine lv_iinc (v := z_358.1 + (nI 1)) (lv' := [(2, .int (z_358.1 + (nI 1))), (1, .ref h_p1)]) hx hb dL_texts_372 hl (k := 0) rfl (congrArg (fun q => z_358.1 + q) (show Int32.ofInt (1) = (nI 1) by decide)) (by decide) rfl (fun ls hl => ?_)
          refine lv_goto (tgt := 358) hx hb dL_texts_375 (by decide) ?_
          obtain rfl := Option.some.inj hM
          exact ih _ hX _ _ _ hP hD hS (lv_sub hl [0, 1] rfl)
    exact hL_358 n _ hn _ _ _ hP hD hS (lv_sub hl [0, 1] rfl)
  have hT_241 : ∀ (wS_p1 : QS) (hM : t_L_texts_241 wS_p1 = some R), ∀ (H : Heap) (locs : List Loc) (ls : Array Slot), va_P (gD g) vwCl (OB g h_p1 al_h_p1 wS_p1 ++ []) H → va_D A (OB g h_p1 al_h_p1 wS_p1 ++ []) → va_S A s.heap H locs → lv_has ls 3 [(1, .ref h_p1)] → W p l e (rmv 6 142) s m args below meth c H locs 0 0 Q (F0 m 241 ls []) := by
    intro wS_p1 hM H locs ls hP hD hS hl
    refine lv_iconst (v := (nI 0)) hx hb dL_texts_241 (by decide) ?_
    refine lv_istore_n (lv' := [(2, .int (nI 0)), (1, .ref h_p1)]) hx hb dL_texts_242 rfl hl (by decide) rfl (fun ls hl => ?_)
    obtain ⟨r_243, hw, hM⟩ := bd_some hM
    obtain ⟨n, hn⟩ := wh_some hw
    clear hw
    have hE_243_0 : ∀ (H : Heap) (locs : List Loc) (ls : Array Slot), va_P (gD g) vwCl (OB g h_p1 al_h_p1 r_243 ++ []) H → va_D A (OB g h_p1 al_h_p1 r_243 ++ []) → va_S A s.heap H locs → lv_has ls 3 [(1, .ref h_p1)] → W p l e (rmv 6 142) s m args below meth c H locs 0 0 Q (F0 m 263 ls []) := by
      intro H locs ls hP hD hS hl
      refine lv_aload_n hx hb dL_texts_263 rfl (lv_at hl 0 rfl) ?_
      refine lv_ldc2 hx hb hown (hts _ m_603) dL_texts_264 ?_
      obtain ⟨q_267, hc_267, hM⟩ := bd_some hM
      refine w_callS cx hP hD hS hA (c_L_types g l h_p1 al_h_p1 (32 : Int64) r_243 hc_267) (blk 0 127) pf_C ob_nd (obx_f rfl) (OB g h_p1 al_h_p1 q_267.2 ++ []) pf_S yq_L_types m_587 m_588 m_16 m_589 ⟨Nat.le_of_ble_eq_true rfl, Nat.le_of_ble_eq_true rfl⟩ rfl rfl hl.1 (Nat.le_of_ble_eq_true rfl) dL_texts_267 ⟨Nat.le_refl 0, Nat.le_refl 0⟩ rfl (fun H locs hP hD hS => ?_)
      refine lv_bipush (v := (nI 37)) hx hb dL_texts_270 (by decide) ?_
      refine lv_icmp_ne (tgt := 303) hx hb dL_texts_272 (by decide) (fun c_272 => ?_) (fun c_272 => ?_)
      · have hM := if_f hM c_272
        refine lv_iconst (v := (nI 0)) hx hb dL_texts_303 (by decide) ?_
        have hz : bq (nI 0) = true := by decide
        obtain rfl := Option.some.inj hM
        exact hfin 304 _ _ _ dL_texts_304 hz hP hD hS
      · have hM := if_t hM c_272
        refine lv_aload_n hx hb dL_texts_275 rfl (lv_at hl 0 rfl) ?_
        refine lv_ldc2 hx hb hown (hts _ m_604) dL_texts_276 ?_
        obtain ⟨q_279, hc_279, hM⟩ := bd_some hM
        refine w_callS cx hP hD hS hA (c_L_types g l h_p1 al_h_p1 (48 : Int64) q_267.2 hc_279) (blk 0 127) pf_C ob_nd (obx_f rfl) (OB g h_p1 al_h_p1 q_279.2 ++ []) pf_S yq_L_types m_587 m_588 m_16 m_589 ⟨Nat.le_of_ble_eq_true rfl, Nat.le_of_ble_eq_true rfl⟩ rfl rfl hl.1 (Nat.le_of_ble_eq_true rfl) dL_texts_279 ⟨Nat.le_refl 0, Nat.le_refl 0⟩ rfl (fun H locs hP hD hS => ?_)
        refine lv_bipush (v := (nI 38)) hx hb dL_texts_282 (by decide) ?_
        refine lv_icmp_ne (tgt := 303) hx hb dL_texts_284 (by decide) (fun c_284 => ?_) (fun c_284 => ?_)
        · have hM := if_f hM c_284
          refine lv_iconst (v := (nI 0)) hx hb dL_texts_303 (by decide) ?_
          have hz : bq (nI 0) = true := by decide
          obtain rfl := Option.some.inj hM
          exact hfin 304 _ _ _ dL_texts_304 hz hP hD hS
        · have hM := if_t hM c_284
          refine lv_aload_n hx hb dL_texts_287 rfl (lv_at hl 0 rfl) ?_
          obtain ⟨q_288, hc_288, hM⟩ := bd_some hM
          refine w_callV cx hP hD hS hA (co_loadGraph g l h_p1 al_h_p1 q_279.2 hc_288) (blk 0 127) pf_C ob_nd (obx_f rfl) (OB g h_p1 al_h_p1 q_288.2 ++ []) pf_S 0 8 rfl rfl yq_X8_loadGraph rfl m_276 m_277 m_278 m_17 m_279 ⟨Nat.le_of_ble_eq_true rfl, Nat.le_of_ble_eq_true rfl⟩ rfl rfl hl.1 (Nat.le_of_ble_eq_true rfl) dL_texts_288 ⟨Nat.le_refl 0, Nat.le_refl 0⟩ rfl (fun H locs hP hD hS => ?_)
          refine lv_bipush (v := (nI 4294967249)) hx hb dL_texts_291 (by decide) ?_
          refine lv_icmp_ne (tgt := 303) hx hb dL_texts_293 (by decide) (fun c_293 => ?_) (fun c_293 => ?_)
          · have hM := if_f hM c_293
            refine lv_iconst (v := (nI 0)) hx hb dL_texts_303 (by decide) ?_
            have hz : bq (nI 0) = true := by decide
            obtain rfl := Option.some.inj hM
            exact hfin 304 _ _ _ dL_texts_304 hz hP hD hS
          · have hM := if_t hM c_293
            refine lv_aload_n hx hb dL_texts_296 rfl (lv_at hl 0 rfl) ?_
            obtain ⟨q_297, hc_297, hM⟩ := bd_some hM
            refine w_callV cx hP hD hS hA (co_edgeCount g l h_p1 al_h_p1 q_288.2 hc_297) (blk 0 127) pf_C ob_nd (obx_f rfl) (OB g h_p1 al_h_p1 q_297.2 ++ []) pf_S 0 8 rfl rfl yq_X8_edgeCount rfl m_324 m_325 m_326 m_17 m_327 ⟨Nat.le_of_ble_eq_true rfl, Nat.le_of_ble_eq_true rfl⟩ rfl rfl hl.1 (Nat.le_of_ble_eq_true rfl) dL_texts_297 ⟨Nat.le_refl 0, Nat.le_refl 0⟩ rfl (fun H locs hP hD hS => ?_)
            refine lv_if_eq (tgt := 305) hx hb dL_texts_300 (by decide) (fun c_300 => ?_) (fun c_300 => ?_)
            · have hM := if_t hM c_300
              obtain ⟨r_305, hw, hM⟩ := bd_some hM
              obtain ⟨n, hn⟩ := wh_some hw
              clear hw
              have hE_305_0 : ∀ (H : Heap) (locs : List Loc) (ls : Array Slot), va_P (gD g) vwCl (OB g h_p1 al_h_p1 r_305 ++ []) H → va_D A (OB g h_p1 al_h_p1 r_305 ++ []) → va_S A s.heap H locs → lv_has ls 3 [(1, .ref h_p1)] → W p l e (rmv 6 142) s m args below meth c H locs 0 0 Q (F0 m 323 ls []) := by
                intro H locs ls hP hD hS hl
                refine lv_aload_n hx hb dL_texts_323 rfl (lv_at hl 0 rfl) ?_
                refine lv_sipush (v := (nI 300)) hx hb dL_texts_324 (by decide) ?_
                obtain ⟨q_327, hc_327, hM⟩ := bd_some hM
                refine w_callV cx hP hD hS hA (co_appendCharacter g l h_p1 al_h_p1 (nI 300) r_305 hc_327) (blk 0 127) pf_C ob_nd (obx_f rfl) (OB g h_p1 al_h_p1 q_327.2 ++ []) pf_S 0 8 rfl rfl yq_X8_appendCharacter rfl m_419 m_420 m_421 m_17 m_422 ⟨Nat.le_of_ble_eq_true rfl, Nat.le_of_ble_eq_true rfl⟩ rfl rfl hl.1 (Nat.le_of_ble_eq_true rfl) dL_texts_327 ⟨Nat.le_refl 0, Nat.le_refl 0⟩ rfl (fun H locs hP hD hS => ?_)
                refine lv_iconst (v := (nI 4294967295)) hx hb dL_texts_330 (by decide) ?_
                refine lv_icmp_ne (tgt := 354) hx hb dL_texts_331 (by decide) (fun c_331 => ?_) (fun c_331 => ?_)
                · have hM := if_f hM c_331
                  refine lv_iconst (v := (nI 0)) hx hb dL_texts_354 (by decide) ?_
                  have hz : bq (nI 0) = true := by decide
                  obtain rfl := Option.some.inj hM
                  exact hfin 355 _ _ _ dL_texts_355 hz hP hD hS
                · have hM := if_t hM c_331
                  refine lv_aload_n hx hb dL_texts_334 rfl (lv_at hl 0 rfl) ?_
                  refine lv_bipush (v := (nI 48)) hx hb dL_texts_335 (by decide) ?_
                  obtain ⟨q_337, hc_337, hM⟩ := bd_some hM
                  refine w_callV cx hP hD hS hA (co_appendCharacter g l h_p1 al_h_p1 (nI 48) q_327.2 hc_337) (blk 0 127) pf_C ob_nd (obx_f rfl) (OB g h_p1 al_h_p1 q_337.2 ++ []) pf_S 0 8 rfl rfl yq_X8_appendCharacter rfl m_419 m_420 m_421 m_17 m_422 ⟨Nat.le_of_ble_eq_true rfl, Nat.le_of_ble_eq_true rfl⟩ rfl rfl hl.1 (Nat.le_of_ble_eq_true rfl) dL_texts_337 ⟨Nat.le_refl 0, Nat.le_refl 0⟩ rfl (fun H locs hP hD hS => ?_)
                  refine lv_bipush (v := (nI 4294967293)) hx hb dL_texts_340 (by decide) ?_
                  refine lv_icmp_ne (tgt := 354) hx hb dL_texts_342 (by decide) (fun c_342 => ?_) (fun c_342 => ?_)
                  · have hM := if_f hM c_342
                    refine lv_iconst (v := (nI 0)) hx hb dL_texts_354 (by decide) ?_
                    have hz : bq (nI 0) = true := by decide
                    obtain rfl := Option.some.inj hM
                    exact hfin 355 _ _ _ dL_texts_355 hz hP hD hS
                  · have hM := if_t hM c_342
                    refine lv_aload_n hx hb dL_texts_345 rfl (lv_at hl 0 rfl) ?_
                    obtain ⟨q_346, hc_346, hM⟩ := bd_some hM
                    refine w_callV cx hP hD hS hA (co_clearText g l h_p1 al_h_p1 q_337.2 hc_346) (blk 0 127) pf_C ob_nd (obx_f rfl) (OB g h_p1 al_h_p1 q_346.2 ++ []) pf_S 0 8 rfl rfl yq_X8_clearText rfl m_593 m_594 m_595 m_17 m_596 ⟨Nat.le_of_ble_eq_true rfl, Nat.le_of_ble_eq_true rfl⟩ rfl rfl hl.1 (Nat.le_of_ble_eq_true rfl) dL_texts_346 ⟨Nat.le_refl 0, Nat.le_refl 0⟩ rfl (fun H locs hP hD hS => ?_)
                    refine lv_bipush (v := (nI 60)) hx hb dL_texts_349 (by decide) ?_
                    refine lv_icmp_eq (tgt := 356) hx hb dL_texts_351 (by decide) (fun c_351 => ?_) (fun c_351 => ?_)
                    · have hM := if_t hM c_351
                      exact hT_356 q_346.2 hM _ _ _ hP hD hS (lv_sub hl [0] rfl)
                    · have hM := if_f hM c_351
                      refine lv_iconst (v := (nI 0)) hx hb dL_texts_354 (by decide) ?_
                      have hz : bq (nI 0) = true := by decide
                      obtain rfl := Option.some.inj hM
                      exact hfin 355 _ _ _ dL_texts_355 hz hP hD hS
              clear hM
              have hL_305 : ∀ (n : Nat) (z_305 : QS), it b_L_texts_305 n z_305 = some r_305 → ∀ (H : Heap) (locs : List Loc) (ls : Array Slot), va_P (gD g) vwCl (OB g h_p1 al_h_p1 z_305 ++ []) H → va_D A (OB g h_p1 al_h_p1 z_305 ++ []) → va_S A s.heap H locs → lv_has ls 3 [(1, .ref h_p1)] → W p l e (rmv 6 142) s m args below meth c H locs 0 0 Q (F0 m 305 ls []) := by
                intro n
                induction n with
                | zero => intro z_305 hn; exact (it_zero hn).elim
                | succ n ih =>
                  intro z_305 hn H locs ls hP hD hS hl
                  obtain ⟨x, hM, hX⟩ := it_succ hn
                  clear hn
                  refine lv_aload_n hx hb dL_texts_305 rfl (lv_at hl 0 rfl) ?_
                  refine lv_bipush (v := (nI 32)) hx hb dL_texts_306 (by decide) ?_
                  obtain ⟨q_308, hc_308, hM⟩ := bd_some hM
                  refine w_callV cx hP hD hS hA (co_appendCharacter g l h_p1 al_h_p1 (nI 32) z_305 hc_308) (blk 0 127) pf_C ob_nd (obx_f rfl) (OB g h_p1 al_h_p1 q_308.2 ++ []) pf_S 0 8 rfl rfl yq_X8_appendCharacter rfl m_419 m_420 m_421 m_17 m_422 ⟨Nat.le_of_ble_eq_true rfl, Nat.le_of_ble_eq_true rfl⟩ rfl rfl hl.1 (Nat.le_of_ble_eq_true rfl) dL_texts_308 ⟨Nat.le_refl 0, Nat.le_refl 0⟩ rfl (fun H locs hP hD hS => ?_)
                  refine lv_if_le (tgt := 323) hx hb dL_texts_311 (by decide) (fun c_311 => ?_) (fun c_311 => ?_)
                  · have hM := if_t hM c_311
                    obtain rfl := Option.some.inj hM
                    obtain rfl : _ = r_305 := hX
                    exact hE_305_0 _ _ _ hP hD hS (lv_sub hl [0] rfl)
                  · have hM := if_f hM c_311
                    refine lv_aload_n hx hb dL_texts_314 rfl (lv_at hl 0 rfl) ?_
                    refine lv_iconst (v := (nI 0)) hx hb dL_texts_315 (by decide) ?_
                    obtain ⟨q_316, hc_316, hM⟩ := bd_some hM
                    refine w_callV cx hP hD hS hA (co_degree g l h_p1 al_h_p1 (nI 0) q_308.2 hc_316) (blk 0 127) pf_C ob_nd (obx_f rfl) (OB g h_p1 al_h_p1 q_316.2 ++ []) pf_S 0 8 rfl rfl yq_X8_degree rfl m_437 m_438 m_439 m_17 m_440 ⟨Nat.le_of_ble_eq_true rfl, Nat.le_of_ble_eq_true rfl⟩ rfl rfl hl.1 (Nat.le_of_ble_eq_true rfl) dL_texts_316 ⟨Nat.le_refl 0, Nat.le_refl 0⟩ rfl (fun H locs hP hD hS => ?_)
                    refine lv_pop hx hb dL_texts_319 rfl ?_
                    refine lv_goto (tgt := 305) hx hb dL_texts_320 (by decide) ?_
                    obtain rfl := Option.some.inj hM
                    exact ih _ hX _ _ _ hP hD hS (lv_sub hl [0] rfl)
              exact hL_305 n _ hn _ _ _ hP hD hS (lv_sub hl [0] rfl)
            · have hM := if_f hM c_300
              refine lv_iconst (v := (nI 0)) hx hb dL_texts_303 (by decide) ?_
              have hz : bq (nI 0) = true := by decide
              obtain rfl := Option.some.inj hM
              exact hfin 304 _ _ _ dL_texts_304 hz hP hD hS
    clear hM
    have hL_243 : ∀ (n : Nat) (z_243 : Int32 × QS), it b_L_texts_243 n z_243 = some r_243 → ∀ (H : Heap) (locs : List Loc) (ls : Array Slot), va_P (gD g) vwCl (OB g h_p1 al_h_p1 z_243.2 ++ []) H → va_D A (OB g h_p1 al_h_p1 z_243.2 ++ []) → va_S A s.heap H locs → lv_has ls 3 [(2, .int z_243.1), (1, .ref h_p1)] → W p l e (rmv 6 142) s m args below meth c H locs 0 0 Q (F0 m 243 ls []) := by
      intro n
      induction n with
      | zero => intro z_243 hn; exact (it_zero hn).elim
      | succ n ih =>
        intro z_243 hn H locs ls hP hD hS hl
        obtain ⟨x, hM, hX⟩ := it_succ hn
        clear hn
        refine lv_iload_n hx hb dL_texts_243 rfl (lv_at hl 0 rfl) ?_
        refine lv_bipush (v := (nI 9)) hx hb dL_texts_244 (by decide) ?_
        refine lv_icmp_ge (tgt := 263) hx hb dL_texts_246 (by decide) (fun c_246 => ?_) (fun c_246 => ?_)
        · have hM := if_t hM c_246
          obtain rfl := Option.some.inj hM
          obtain rfl : _ = r_243 := hX
          exact hE_243_0 _ _ _ hP hD hS (lv_sub hl [1] rfl)
        · have hM := if_f hM c_246
          refine lv_aload_n hx hb dL_texts_249 rfl (lv_at hl 1 rfl) ?_
          refine lv_ldc2 hx hb hown (hts _ m_602) dL_texts_250 ?_
          obtain ⟨q_253, hc_253, hM⟩ := bd_some hM
          refine w_callS cx hP hD hS hA (c_L_types g l h_p1 al_h_p1 (808268091 : Int64) z_243.2 hc_253) (blk 0 127) pf_C ob_nd (obx_f rfl) (OB g h_p1 al_h_p1 q_253.2 ++ []) pf_S yq_L_types m_587 m_588 m_16 m_589 ⟨Nat.le_of_ble_eq_true rfl, Nat.le_of_ble_eq_true rfl⟩ rfl rfl hl.1 (Nat.le_of_ble_eq_true rfl) dL_texts_253 ⟨Nat.le_refl 0, Nat.le_refl 0⟩ rfl (fun H locs hP hD hS => ?_)
          refine lv_pop hx hb dL_texts_256 rfl ?_
          refine lv_iinc (v := z_243.1 + (nI 1)) (lv' := [(2, .int (z_243.1 + (nI 1))), (1, .ref h_p1)]) hx hb dL_texts_257 hl (k := 0) rfl (congrArg (fun q => z_243.1 + q) (show Int32.ofInt (1) = (nI 1) by decide)) (by decide) rfl (fun ls hl => ?_)
          refine lv_goto (tgt := 243) hx hb dL_texts_260 (by decide) ?_
          obtain rfl := Option.some.inj hM
          exact ih _ hX _ _ _ hP hD hS (lv_sub hl [0, 1] rfl)
    exact hL_243 n _ hn _ _ _ hP hD hS (lv_sub hl [0, 1] rfl)
  have hT_155 : ∀ (wS_p1 : QS) (hM : t_L_texts_155 wS_p1 = some R), ∀ (H : Heap) (locs : List Loc) (ls : Array Slot), va_P (gD g) vwCl (OB g h_p1 al_h_p1 wS_p1 ++ []) H → va_D A (OB g h_p1 al_h_p1 wS_p1 ++ []) → va_S A s.heap H locs → lv_has ls 3 [(1, .ref h_p1)] → W p l e (rmv 6 142) s m args below meth c H locs 0 0 Q (F0 m 155 ls []) := by
    intro wS_p1 hM H locs ls hP hD hS hl
    refine lv_aload_n hx hb dL_texts_155 rfl (lv_at hl 0 rfl) ?_
    refine lv_ldc2 hx hb hown (hts _ m_599) dL_texts_156 ?_
    obtain ⟨q_159, hc_159, hM⟩ := bd_some hM
    refine w_callS cx hP hD hS hA (c_L_types g l h_p1 al_h_p1 (12330 : Int64) wS_p1 hc_159) (blk 0 127) pf_C ob_nd (obx_f rfl) (OB g h_p1 al_h_p1 q_159.2 ++ []) pf_S yq_L_types m_587 m_588 m_16 m_589 ⟨Nat.le_of_ble_eq_true rfl, Nat.le_of_ble_eq_true rfl⟩ rfl rfl hl.1 (Nat.le_of_ble_eq_true rfl) dL_texts_159 ⟨Nat.le_refl 0, Nat.le_refl 0⟩ rfl (fun H locs hP hD hS => ?_)
    refine lv_iconst (v := (nI 2)) hx hb dL_texts_162 (by decide) ?_
    refine lv_icmp_ne (tgt := 239) hx hb dL_texts_163 (by decide) (fun c_163 => ?_) (fun c_163 => ?_)
    · have hM := if_f hM c_163
      refine lv_iconst (v := (nI 0)) hx hb dL_texts_239 (by decide) ?_
      have hz : bq (nI 0) = true := by decide
      obtain rfl := Option.some.inj hM
      exact hfin 240 _ _ _ dL_texts_240 hz hP hD hS
    · have hM := if_t hM c_163
      refine lv_aload_n hx hb dL_texts_166 rfl (lv_at hl 0 rfl) ?_
      obtain ⟨q_167, hc_167, hM⟩ := bd_some hM
      refine w_callV cx hP hD hS hA (co_loadGraph g l h_p1 al_h_p1 q_159.2 hc_167) (blk 0 127) pf_C ob_nd (obx_f rfl) (OB g h_p1 al_h_p1 q_167.2 ++ []) pf_S 0 8 rfl rfl yq_X8_loadGraph rfl m_276 m_277 m_278 m_17 m_279 ⟨Nat.le_of_ble_eq_true rfl, Nat.le_of_ble_eq_true rfl⟩ rfl rfl hl.1 (Nat.le_of_ble_eq_true rfl) dL_texts_167 ⟨Nat.le_refl 0, Nat.le_refl 0⟩ rfl (fun H locs hP hD hS => ?_)
      refine lv_bipush (v := (nI 4294967285)) hx hb dL_texts_170 (by decide) ?_
      refine lv_icmp_ne (tgt := 239) hx hb dL_texts_172 (by decide) (fun c_172 => ?_) (fun c_172 => ?_)
      · have hM := if_f hM c_172
        refine lv_iconst (v := (nI 0)) hx hb dL_texts_239 (by decide) ?_
        have hz : bq (nI 0) = true := by decide
        obtain rfl := Option.some.inj hM
        exact hfin 240 _ _ _ dL_texts_240 hz hP hD hS
      · have hM := if_t hM c_172
        refine lv_aload_n hx hb dL_texts_175 rfl (lv_at hl 0 rfl) ?_
        obtain ⟨q_176, hc_176, hM⟩ := bd_some hM
        refine w_callV cx hP hD hS hA (co_clearText g l h_p1 al_h_p1 q_167.2 hc_176) (blk 0 127) pf_C ob_nd (obx_f rfl) (OB g h_p1 al_h_p1 q_176.2 ++ []) pf_S 0 8 rfl rfl yq_X8_clearText rfl m_593 m_594 m_595 m_17 m_596 ⟨Nat.le_of_ble_eq_true rfl, Nat.le_of_ble_eq_true rfl⟩ rfl rfl hl.1 (Nat.le_of_ble_eq_true rfl) dL_texts_176 ⟨Nat.le_refl 0, Nat.le_refl 0⟩ rfl (fun H locs hP hD hS => ?_)
        refine lv_iconst (v := (nI 2)) hx hb dL_texts_179 (by decide) ?_
        refine lv_icmp_ne (tgt := 239) hx hb dL_texts_180 (by decide) (fun c_180 => ?_) (fun c_180 => ?_)
        · have hM := if_f hM c_180
          refine lv_iconst (v := (nI 0)) hx hb dL_texts_239 (by decide) ?_
          have hz : bq (nI 0) = true := by decide
          obtain rfl := Option.some.inj hM
          exact hfin 240 _ _ _ dL_texts_240 hz hP hD hS
        · have hM := if_t hM c_180
          refine lv_aload_n hx hb dL_texts_183 rfl (lv_at hl 0 rfl) ?_
          refine lv_ldc2 hx hb hown (hts _ m_600) dL_texts_184 ?_
          obtain ⟨q_187, hc_187, hM⟩ := bd_some hM
          refine w_callS cx hP hD hS hA (c_L_types g l h_p1 al_h_p1 (808268064 : Int64) q_176.2 hc_187) (blk 0 127) pf_C ob_nd (obx_f rfl) (OB g h_p1 al_h_p1 q_187.2 ++ []) pf_S yq_L_types m_587 m_588 m_16 m_589 ⟨Nat.le_of_ble_eq_true rfl, Nat.le_of_ble_eq_true rfl⟩ rfl rfl hl.1 (Nat.le_of_ble_eq_true rfl) dL_texts_187 ⟨Nat.le_refl 0, Nat.le_refl 0⟩ rfl (fun H locs hP hD hS => ?_)
          refine lv_iconst (v := (nI 4)) hx hb dL_texts_190 (by decide) ?_
          refine lv_icmp_ne (tgt := 239) hx hb dL_texts_191 (by decide) (fun c_191 => ?_) (fun c_191 => ?_)
          · have hM := if_f hM c_191
            refine lv_iconst (v := (nI 0)) hx hb dL_texts_239 (by decide) ?_
            have hz : bq (nI 0) = true := by decide
            obtain rfl := Option.some.inj hM
            exact hfin 240 _ _ _ dL_texts_240 hz hP hD hS
          · have hM := if_t hM c_191
            refine lv_aload_n hx hb dL_texts_194 rfl (lv_at hl 0 rfl) ?_
            obtain ⟨q_195, hc_195, hM⟩ := bd_some hM
            refine w_callV cx hP hD hS hA (co_loadGraph g l h_p1 al_h_p1 q_187.2 hc_195) (blk 0 127) pf_C ob_nd (obx_f rfl) (OB g h_p1 al_h_p1 q_195.2 ++ []) pf_S 0 8 rfl rfl yq_X8_loadGraph rfl m_276 m_277 m_278 m_17 m_279 ⟨Nat.le_of_ble_eq_true rfl, Nat.le_of_ble_eq_true rfl⟩ rfl rfl hl.1 (Nat.le_of_ble_eq_true rfl) dL_texts_195 ⟨Nat.le_refl 0, Nat.le_refl 0⟩ rfl (fun H locs hP hD hS => ?_)
            refine lv_bipush (v := (nI 4294967282)) hx hb dL_texts_198 (by decide) ?_
            refine lv_icmp_ne (tgt := 239) hx hb dL_texts_200 (by decide) (fun c_200 => ?_) (fun c_200 => ?_)
            · have hM := if_f hM c_200
              refine lv_iconst (v := (nI 0)) hx hb dL_texts_239 (by decide) ?_
              have hz : bq (nI 0) = true := by decide
              obtain rfl := Option.some.inj hM
              exact hfin 240 _ _ _ dL_texts_240 hz hP hD hS
            · have hM := if_t hM c_200
              refine lv_aload_n hx hb dL_texts_203 rfl (lv_at hl 0 rfl) ?_
              obtain ⟨q_204, hc_204, hM⟩ := bd_some hM
              refine w_callV cx hP hD hS hA (co_clearText g l h_p1 al_h_p1 q_195.2 hc_204) (blk 0 127) pf_C ob_nd (obx_f rfl) (OB g h_p1 al_h_p1 q_204.2 ++ []) pf_S 0 8 rfl rfl yq_X8_clearText rfl m_593 m_594 m_595 m_17 m_596 ⟨Nat.le_of_ble_eq_true rfl, Nat.le_of_ble_eq_true rfl⟩ rfl rfl hl.1 (Nat.le_of_ble_eq_true rfl) dL_texts_204 ⟨Nat.le_refl 0, Nat.le_refl 0⟩ rfl (fun H locs hP hD hS => ?_)
              refine lv_iconst (v := (nI 4)) hx hb dL_texts_207 (by decide) ?_
              refine lv_icmp_ne (tgt := 239) hx hb dL_texts_208 (by decide) (fun c_208 => ?_) (fun c_208 => ?_)
              · have hM := if_f hM c_208
                refine lv_iconst (v := (nI 0)) hx hb dL_texts_239 (by decide) ?_
                have hz : bq (nI 0) = true := by decide
                obtain rfl := Option.some.inj hM
                exact hfin 240 _ _ _ dL_texts_240 hz hP hD hS
              · have hM := if_t hM c_208
                refine lv_aload_n hx hb dL_texts_211 rfl (lv_at hl 0 rfl) ?_
                refine lv_ldc2 hx hb hown (hts _ m_601) dL_texts_212 ?_
                obtain ⟨q_215, hc_215, hM⟩ := bd_some hM
                refine w_callS cx hP hD hS hA (c_L_types g l h_p1 al_h_p1 (808268077 : Int64) q_204.2 hc_215) (blk 0 127) pf_C ob_nd (obx_f rfl) (OB g h_p1 al_h_p1 q_215.2 ++ []) pf_S yq_L_types m_587 m_588 m_16 m_589 ⟨Nat.le_of_ble_eq_true rfl, Nat.le_of_ble_eq_true rfl⟩ rfl rfl hl.1 (Nat.le_of_ble_eq_true rfl) dL_texts_215 ⟨Nat.le_refl 0, Nat.le_refl 0⟩ rfl (fun H locs hP hD hS => ?_)
                refine lv_iconst (v := (nI 4)) hx hb dL_texts_218 (by decide) ?_
                refine lv_icmp_ne (tgt := 239) hx hb dL_texts_219 (by decide) (fun c_219 => ?_) (fun c_219 => ?_)
                · have hM := if_f hM c_219
                  refine lv_iconst (v := (nI 0)) hx hb dL_texts_239 (by decide) ?_
                  have hz : bq (nI 0) = true := by decide
                  obtain rfl := Option.some.inj hM
                  exact hfin 240 _ _ _ dL_texts_240 hz hP hD hS
                · have hM := if_t hM c_219
                  refine lv_aload_n hx hb dL_texts_222 rfl (lv_at hl 0 rfl) ?_
                  obtain ⟨q_223, hc_223, hM⟩ := bd_some hM
                  refine w_callV cx hP hD hS hA (co_loadGraph g l h_p1 al_h_p1 q_215.2 hc_223) (blk 0 127) pf_C ob_nd (obx_f rfl) (OB g h_p1 al_h_p1 q_223.2 ++ []) pf_S 0 8 rfl rfl yq_X8_loadGraph rfl m_276 m_277 m_278 m_17 m_279 ⟨Nat.le_of_ble_eq_true rfl, Nat.le_of_ble_eq_true rfl⟩ rfl rfl hl.1 (Nat.le_of_ble_eq_true rfl) dL_texts_223 ⟨Nat.le_refl 0, Nat.le_refl 0⟩ rfl (fun H locs hP hD hS => ?_)
                  refine lv_bipush (v := (nI 4294967283)) hx hb dL_texts_226 (by decide) ?_
                  refine lv_icmp_ne (tgt := 239) hx hb dL_texts_228 (by decide) (fun c_228 => ?_) (fun c_228 => ?_)
                  · have hM := if_f hM c_228
                    refine lv_iconst (v := (nI 0)) hx hb dL_texts_239 (by decide) ?_
                    have hz : bq (nI 0) = true := by decide
                    obtain rfl := Option.some.inj hM
                    exact hfin 240 _ _ _ dL_texts_240 hz hP hD hS
                  · have hM := if_t hM c_228
                    refine lv_aload_n hx hb dL_texts_231 rfl (lv_at hl 0 rfl) ?_
                    obtain ⟨q_232, hc_232, hM⟩ := bd_some hM
                    refine w_callV cx hP hD hS hA (co_clearText g l h_p1 al_h_p1 q_223.2 hc_232) (blk 0 127) pf_C ob_nd (obx_f rfl) (OB g h_p1 al_h_p1 q_232.2 ++ []) pf_S 0 8 rfl rfl yq_X8_clearText rfl m_593 m_594 m_595 m_17 m_596 ⟨Nat.le_of_ble_eq_true rfl, Nat.le_of_ble_eq_true rfl⟩ rfl rfl hl.1 (Nat.le_of_ble_eq_true rfl) dL_texts_232 ⟨Nat.le_refl 0, Nat.le_refl 0⟩ rfl (fun H locs hP hD hS => ?_)
                    refine lv_iconst (v := (nI 4)) hx hb dL_texts_235 (by decide) ?_
                    refine lv_icmp_eq (tgt := 241) hx hb dL_texts_236 (by decide) (fun c_236 => ?_) (fun c_236 => ?_)
                    · have hM := if_t hM c_236
                      exact hT_241 q_232.2 hM _ _ _ hP hD hS (lv_sub hl [0] rfl)
                    · have hM := if_f hM c_236
                      refine lv_iconst (v := (nI 0)) hx hb dL_texts_239 (by decide) ?_
                      have hz : bq (nI 0) = true := by decide
                      obtain rfl := Option.some.inj hM
                      exact hfin 240 _ _ _ dL_texts_240 hz hP hD hS
  have hT_97 : ∀ (wS_p1 : QS) (hM : t_L_texts_97 wS_p1 = some R), ∀ (H : Heap) (locs : List Loc) (ls : Array Slot), va_P (gD g) vwCl (OB g h_p1 al_h_p1 wS_p1 ++ []) H → va_D A (OB g h_p1 al_h_p1 wS_p1 ++ []) → va_S A s.heap H locs → lv_has ls 3 [(1, .ref h_p1)] → W p l e (rmv 6 142) s m args below meth c H locs 0 0 Q (F0 m 97 ls []) := by
    intro wS_p1 hM H locs ls hP hD hS hl
    refine lv_aload_n hx hb dL_texts_97 rfl (lv_at hl 0 rfl) ?_
    refine lv_ldc2 hx hb hown (hts _ m_597) dL_texts_98 ?_
    obtain ⟨q_101, hc_101, hM⟩ := bd_some hM
    refine w_callS cx hP hD hS hA (c_L_types g l h_p1 al_h_p1 (808268859 : Int64) wS_p1 hc_101) (blk 0 127) pf_C ob_nd (obx_f rfl) (OB g h_p1 al_h_p1 q_101.2 ++ []) pf_S yq_L_types m_587 m_588 m_16 m_589 ⟨Nat.le_of_ble_eq_true rfl, Nat.le_of_ble_eq_true rfl⟩ rfl rfl hl.1 (Nat.le_of_ble_eq_true rfl) dL_texts_101 ⟨Nat.le_refl 0, Nat.le_refl 0⟩ rfl (fun H locs hP hD hS => ?_)
    refine lv_iconst (v := (nI 4)) hx hb dL_texts_104 (by decide) ?_
    refine lv_icmp_ne (tgt := 153) hx hb dL_texts_105 (by decide) (fun c_105 => ?_) (fun c_105 => ?_)
    · have hM := if_f hM c_105
      refine lv_iconst (v := (nI 0)) hx hb dL_texts_153 (by decide) ?_
      have hz : bq (nI 0) = true := by decide
      obtain rfl := Option.some.inj hM
      exact hfin 154 _ _ _ dL_texts_154 hz hP hD hS
    · have hM := if_t hM c_105
      refine lv_aload_n hx hb dL_texts_108 rfl (lv_at hl 0 rfl) ?_
      obtain ⟨q_109, hc_109, hM⟩ := bd_some hM
      refine w_callV cx hP hD hS hA (co_loadGraph g l h_p1 al_h_p1 q_101.2 hc_109) (blk 0 127) pf_C ob_nd (obx_f rfl) (OB g h_p1 al_h_p1 q_109.2 ++ []) pf_S 0 8 rfl rfl yq_X8_loadGraph rfl m_276 m_277 m_278 m_17 m_279 ⟨Nat.le_of_ble_eq_true rfl, Nat.le_of_ble_eq_true rfl⟩ rfl rfl hl.1 (Nat.le_of_ble_eq_true rfl) dL_texts_109 ⟨Nat.le_refl 0, Nat.le_refl 0⟩ rfl (fun H locs hP hD hS => ?_)
      refine lv_bipush (v := (nI 4294967284)) hx hb dL_texts_112 (by decide) ?_
      refine lv_icmp_ne (tgt := 153) hx hb dL_texts_114 (by decide) (fun c_114 => ?_) (fun c_114 => ?_)
      · have hM := if_f hM c_114
        refine lv_iconst (v := (nI 0)) hx hb dL_texts_153 (by decide) ?_
        have hz : bq (nI 0) = true := by decide
        obtain rfl := Option.some.inj hM
        exact hfin 154 _ _ _ dL_texts_154 hz hP hD hS
      · have hM := if_t hM c_114
        refine lv_aload_n hx hb dL_texts_117 rfl (lv_at hl 0 rfl) ?_
        obtain ⟨q_118, hc_118, hM⟩ := bd_some hM
        refine w_callV cx hP hD hS hA (co_clearText g l h_p1 al_h_p1 q_109.2 hc_118) (blk 0 127) pf_C ob_nd (obx_f rfl) (OB g h_p1 al_h_p1 q_118.2 ++ []) pf_S 0 8 rfl rfl yq_X8_clearText rfl m_593 m_594 m_595 m_17 m_596 ⟨Nat.le_of_ble_eq_true rfl, Nat.le_of_ble_eq_true rfl⟩ rfl rfl hl.1 (Nat.le_of_ble_eq_true rfl) dL_texts_118 ⟨Nat.le_refl 0, Nat.le_refl 0⟩ rfl (fun H locs hP hD hS => ?_)
        refine lv_iconst (v := (nI 4)) hx hb dL_texts_121 (by decide) ?_
        refine lv_icmp_ne (tgt := 153) hx hb dL_texts_122 (by decide) (fun c_122 => ?_) (fun c_122 => ?_)
        · have hM := if_f hM c_122
          refine lv_iconst (v := (nI 0)) hx hb dL_texts_153 (by decide) ?_
          have hz : bq (nI 0) = true := by decide
          obtain rfl := Option.some.inj hM
          exact hfin 154 _ _ _ dL_texts_154 hz hP hD hS
        · have hM := if_t hM c_122
          refine lv_aload_n hx hb dL_texts_125 rfl (lv_at hl 0 rfl) ?_
          refine lv_ldc2 hx hb hown (hts _ m_598) dL_texts_126 ?_
          obtain ⟨q_129, hc_129, hM⟩ := bd_some hM
          refine w_callS cx hP hD hS hA (c_L_types g l h_p1 al_h_p1 (808267835 : Int64) q_118.2 hc_129) (blk 0 127) pf_C ob_nd (obx_f rfl) (OB g h_p1 al_h_p1 q_129.2 ++ []) pf_S yq_L_types m_587 m_588 m_16 m_589 ⟨Nat.le_of_ble_eq_true rfl, Nat.le_of_ble_eq_true rfl⟩ rfl rfl hl.1 (Nat.le_of_ble_eq_true rfl) dL_texts_129 ⟨Nat.le_refl 0, Nat.le_refl 0⟩ rfl (fun H locs hP hD hS => ?_)
          refine lv_iconst (v := (nI 4)) hx hb dL_texts_132 (by decide) ?_
          refine lv_icmp_ne (tgt := 153) hx hb dL_texts_133 (by decide) (fun c_133 => ?_) (fun c_133 => ?_)
          · have hM := if_f hM c_133
            refine lv_iconst (v := (nI 0)) hx hb dL_texts_153 (by decide) ?_
            have hz : bq (nI 0) = true := by decide
            obtain rfl := Option.some.inj hM
            exact hfin 154 _ _ _ dL_texts_154 hz hP hD hS
          · have hM := if_t hM c_133
            refine lv_aload_n hx hb dL_texts_136 rfl (lv_at hl 0 rfl) ?_
            obtain ⟨q_137, hc_137, hM⟩ := bd_some hM
            refine w_callV cx hP hD hS hA (co_loadGraph g l h_p1 al_h_p1 q_129.2 hc_137) (blk 0 127) pf_C ob_nd (obx_f rfl) (OB g h_p1 al_h_p1 q_137.2 ++ []) pf_S 0 8 rfl rfl yq_X8_loadGraph rfl m_276 m_277 m_278 m_17 m_279 ⟨Nat.le_of_ble_eq_true rfl, Nat.le_of_ble_eq_true rfl⟩ rfl rfl hl.1 (Nat.le_of_ble_eq_true rfl) dL_texts_137 ⟨Nat.le_refl 0, Nat.le_refl 0⟩ rfl (fun H locs hP hD hS => ?_)
            refine lv_bipush (v := (nI 4294967284)) hx hb dL_texts_140 (by decide) ?_
            refine lv_icmp_ne (tgt := 153) hx hb dL_texts_142 (by decide) (fun c_142 => ?_) (fun c_142 => ?_)
            · have hM := if_f hM c_142
              refine lv_iconst (v := (nI 0)) hx hb dL_texts_153 (by decide) ?_
              have hz : bq (nI 0) = true := by decide
              obtain rfl := Option.some.inj hM
              exact hfin 154 _ _ _ dL_texts_154 hz hP hD hS
            · have hM := if_t hM c_142
              refine lv_aload_n hx hb dL_texts_145 rfl (lv_at hl 0 rfl) ?_
              obtain ⟨q_146, hc_146, hM⟩ := bd_some hM
              refine w_callV cx hP hD hS hA (co_clearText g l h_p1 al_h_p1 q_137.2 hc_146) (blk 0 127) pf_C ob_nd (obx_f rfl) (OB g h_p1 al_h_p1 q_146.2 ++ []) pf_S 0 8 rfl rfl yq_X8_clearText rfl m_593 m_594 m_595 m_17 m_596 ⟨Nat.le_of_ble_eq_true rfl, Nat.le_of_ble_eq_true rfl⟩ rfl rfl hl.1 (Nat.le_of_ble_eq_true rfl) dL_texts_146 ⟨Nat.le_refl 0, Nat.le_refl 0⟩ rfl (fun H locs hP hD hS => ?_)
              refine lv_iconst (v := (nI 4)) hx hb dL_texts_149 (by decide) ?_
              refine lv_icmp_eq (tgt := 155) hx hb dL_texts_150 (by decide) (fun c_150 => ?_) (fun c_150 => ?_)
              · have hM := if_t hM c_150
                exact hT_155 q_146.2 hM _ _ _ hP hD hS (lv_sub hl [0] rfl)
              · have hM := if_f hM c_150
                refine lv_iconst (v := (nI 0)) hx hb dL_texts_153 (by decide) ?_
                have hz : bq (nI 0) = true := by decide
                obtain rfl := Option.some.inj hM
                exact hfin 154 _ _ _ dL_texts_154 hz hP hD hS
  have hS : va_S A s.heap s.heap [] := va_S.rf
  refine lv_aload_n hx hb dL_texts_0 rfl (lv_at hl 0 rfl) ?_
  refine lv_astore_n (lv' := [(1, .ref h_p1), (0, .ref h_p1)]) hx hb dL_texts_1 rfl hl (by decide) rfl (fun ls hl => ?_)
  refine lv_aload_n hx hb dL_texts_2 rfl (lv_at hl 0 rfl) ?_
  refine lv_iconst (v := (nI 4)) hx hb dL_texts_3 (by decide) ?_
  obtain ⟨q_4, hc_4, hM⟩ := bd_some hM
  refine w_callV cx hP hD hS hA (co_configure g l h_p1 al_h_p1 (nI 4) S_p1 hc_4) (blk 0 127) pf_C ob_nd (obx_f rfl) (OB g h_p1 al_h_p1 q_4.2 ++ []) pf_S 0 8 rfl rfl yq_X8_configure rfl m_339 m_340 m_341 m_17 m_342 ⟨Nat.le_of_ble_eq_true rfl, Nat.le_of_ble_eq_true rfl⟩ rfl rfl hl.1 (Nat.le_of_ble_eq_true rfl) dL_texts_4 ⟨Nat.le_refl 0, Nat.le_refl 0⟩ rfl (fun H locs hP hD hS => ?_)
  refine lv_pop hx hb dL_texts_7 rfl ?_
  refine lv_aload_n hx hb dL_texts_8 rfl (lv_at hl 0 rfl) ?_
  refine lv_ldc2 hx hb hown (hts _ m_586) dL_texts_9 ?_
  obtain ⟨q_12, hc_12, hM⟩ := bd_some hM
  refine w_callS cx hP hD hS hA (c_L_types g l h_p1 al_h_p1 (3471485017785466418 : Int64) q_4.2 hc_12) (blk 0 127) pf_C ob_nd (obx_f rfl) (OB g h_p1 al_h_p1 q_12.2 ++ []) pf_S yq_L_types m_587 m_588 m_16 m_589 ⟨Nat.le_of_ble_eq_true rfl, Nat.le_of_ble_eq_true rfl⟩ rfl rfl hl.1 (Nat.le_of_ble_eq_true rfl) dL_texts_12 ⟨Nat.le_refl 0, Nat.le_refl 0⟩ rfl (fun H locs hP hD hS => ?_)
  refine lv_pop hx hb dL_texts_15 rfl ?_
  refine lv_aload_n hx hb dL_texts_16 rfl (lv_at hl 0 rfl) ?_
  refine lv_ldc2 hx hb hown (hts _ m_591) dL_texts_17 ?_
  obtain ⟨q_20, hc_20, hM⟩ := bd_some hM
  refine w_callS cx hP hD hS hA (c_L_types g l h_p1 al_h_p1 (2322485432718211872 : Int64) q_12.2 hc_20) (blk 0 127) pf_C ob_nd (obx_f rfl) (OB g h_p1 al_h_p1 q_20.2 ++ []) pf_S yq_L_types m_587 m_588 m_16 m_589 ⟨Nat.le_of_ble_eq_true rfl, Nat.le_of_ble_eq_true rfl⟩ rfl rfl hl.1 (Nat.le_of_ble_eq_true rfl) dL_texts_20 ⟨Nat.le_refl 0, Nat.le_refl 0⟩ rfl (fun H locs hP hD hS => ?_)
  refine lv_bipush (v := (nI 16)) hx hb dL_texts_23 (by decide) ?_
  refine lv_icmp_ne (tgt := 95) hx hb dL_texts_25 (by decide) (fun c_25 => ?_) (fun c_25 => ?_)
  · have hM := if_f hM c_25
    refine lv_iconst (v := (nI 0)) hx hb dL_texts_95 (by decide) ?_
    have hz : bq (nI 0) = true := by decide
    obtain rfl := Option.some.inj hM
    exact hfin 96 _ _ _ dL_texts_96 hz hP hD hS
  · have hM := if_t hM c_25
    refine lv_aload_n hx hb dL_texts_28 rfl (lv_at hl 0 rfl) ?_
    obtain ⟨q_29, hc_29, hM⟩ := bd_some hM
    refine w_callV cx hP hD hS hA (co_loadGraph g l h_p1 al_h_p1 q_20.2 hc_29) (blk 0 127) pf_C ob_nd (obx_f rfl) (OB g h_p1 al_h_p1 q_29.2 ++ []) pf_S 0 8 rfl rfl yq_X8_loadGraph rfl m_276 m_277 m_278 m_17 m_279 ⟨Nat.le_of_ble_eq_true rfl, Nat.le_of_ble_eq_true rfl⟩ rfl rfl hl.1 (Nat.le_of_ble_eq_true rfl) dL_texts_29 ⟨Nat.le_refl 0, Nat.le_refl 0⟩ rfl (fun H locs hP hD hS => ?_)
    refine lv_iconst (v := (nI 3)) hx hb dL_texts_32 (by decide) ?_
    refine lv_icmp_ne (tgt := 95) hx hb dL_texts_33 (by decide) (fun c_33 => ?_) (fun c_33 => ?_)
    · have hM := if_f hM c_33
      refine lv_iconst (v := (nI 0)) hx hb dL_texts_95 (by decide) ?_
      have hz : bq (nI 0) = true := by decide
      obtain rfl := Option.some.inj hM
      exact hfin 96 _ _ _ dL_texts_96 hz hP hD hS
    · have hM := if_t hM c_33
      refine lv_aload_n hx hb dL_texts_36 rfl (lv_at hl 0 rfl) ?_
      obtain ⟨q_37, hc_37, hM⟩ := bd_some hM
      refine w_callV cx hP hD hS hA (co_edgeCount g l h_p1 al_h_p1 q_29.2 hc_37) (blk 0 127) pf_C ob_nd (obx_f rfl) (OB g h_p1 al_h_p1 q_37.2 ++ []) pf_S 0 8 rfl rfl yq_X8_edgeCount rfl m_324 m_325 m_326 m_17 m_327 ⟨Nat.le_of_ble_eq_true rfl, Nat.le_of_ble_eq_true rfl⟩ rfl rfl hl.1 (Nat.le_of_ble_eq_true rfl) dL_texts_37 ⟨Nat.le_refl 0, Nat.le_refl 0⟩ rfl (fun H locs hP hD hS => ?_)
      refine lv_iconst (v := (nI 3)) hx hb dL_texts_40 (by decide) ?_
      refine lv_icmp_ne (tgt := 95) hx hb dL_texts_41 (by decide) (fun c_41 => ?_) (fun c_41 => ?_)
      · have hM := if_f hM c_41
        refine lv_iconst (v := (nI 0)) hx hb dL_texts_95 (by decide) ?_
        have hz : bq (nI 0) = true := by decide
        obtain rfl := Option.some.inj hM
        exact hfin 96 _ _ _ dL_texts_96 hz hP hD hS
      · have hM := if_t hM c_41
        refine lv_aload_n hx hb dL_texts_44 rfl (lv_at hl 0 rfl) ?_
        refine lv_iconst (v := (nI 2)) hx hb dL_texts_45 (by decide) ?_
        obtain ⟨q_46, hc_46, hM⟩ := bd_some hM
        refine w_callV cx hP hD hS hA (co_headOf g l h_p1 al_h_p1 (nI 2) q_37.2 hc_46) (blk 0 127) pf_C ob_nd (obx_f rfl) (OB g h_p1 al_h_p1 q_46.2 ++ []) pf_S 0 8 rfl rfl yq_X8_headOf rfl m_347 m_348 m_349 m_17 m_350 ⟨Nat.le_of_ble_eq_true rfl, Nat.le_of_ble_eq_true rfl⟩ rfl rfl hl.1 (Nat.le_of_ble_eq_true rfl) dL_texts_46 ⟨Nat.le_refl 0, Nat.le_refl 0⟩ rfl (fun H locs hP hD hS => ?_)
        refine lv_iconst (v := (nI 2)) hx hb dL_texts_49 (by decide) ?_
        refine lv_icmp_ne (tgt := 95) hx hb dL_texts_50 (by decide) (fun c_50 => ?_) (fun c_50 => ?_)
        · have hM := if_f hM c_50
          refine lv_iconst (v := (nI 0)) hx hb dL_texts_95 (by decide) ?_
          have hz : bq (nI 0) = true := by decide
          obtain rfl := Option.some.inj hM
          exact hfin 96 _ _ _ dL_texts_96 hz hP hD hS
        · have hM := if_t hM c_50
          refine lv_aload_n hx hb dL_texts_53 rfl (lv_at hl 0 rfl) ?_
          refine lv_iconst (v := (nI 5)) hx hb dL_texts_54 (by decide) ?_
          obtain ⟨q_55, hc_55, hM⟩ := bd_some hM
          refine w_callV cx hP hD hS hA (co_headOf g l h_p1 al_h_p1 (nI 5) q_46.2 hc_55) (blk 0 127) pf_C ob_nd (obx_f rfl) (OB g h_p1 al_h_p1 q_55.2 ++ []) pf_S 0 8 rfl rfl yq_X8_headOf rfl m_347 m_348 m_349 m_17 m_350 ⟨Nat.le_of_ble_eq_true rfl, Nat.le_of_ble_eq_true rfl⟩ rfl rfl hl.1 (Nat.le_of_ble_eq_true rfl) dL_texts_55 ⟨Nat.le_refl 0, Nat.le_refl 0⟩ rfl (fun H locs hP hD hS => ?_)
          refine lv_iconst (v := (nI 2)) hx hb dL_texts_58 (by decide) ?_
          refine lv_icmp_ne (tgt := 95) hx hb dL_texts_59 (by decide) (fun c_59 => ?_) (fun c_59 => ?_)
          · have hM := if_f hM c_59
            refine lv_iconst (v := (nI 0)) hx hb dL_texts_95 (by decide) ?_
            have hz : bq (nI 0) = true := by decide
            obtain rfl := Option.some.inj hM
            exact hfin 96 _ _ _ dL_texts_96 hz hP hD hS
          · have hM := if_t hM c_59
            refine lv_aload_n hx hb dL_texts_62 rfl (lv_at hl 0 rfl) ?_
            refine lv_iconst (v := (nI 3)) hx hb dL_texts_63 (by decide) ?_
            obtain ⟨q_64, hc_64, hM⟩ := bd_some hM
            refine w_callV cx hP hD hS hA (co_signedWalks g l h_p1 al_h_p1 (nI 3) q_55.2 hc_64) (blk 0 127) pf_C ob_nd (obx_f rfl) (OB g h_p1 al_h_p1 q_64.2 ++ []) pf_S 0 8 rfl rfl yq_X8_signedWalks rfl m_359 m_360 m_361 m_17 m_362 ⟨Nat.le_of_ble_eq_true rfl, Nat.le_of_ble_eq_true rfl⟩ rfl rfl hl.1 (Nat.le_of_ble_eq_true rfl) dL_texts_64 ⟨Nat.le_refl 0, Nat.le_refl 0⟩ rfl (fun H locs hP hD hS => ?_)
            refine lv_ldc2 hx hb hown (hts _ m_592) dL_texts_67 ?_
            refine W.lcmp hx hb dL_texts_70 ?_
            refine lv_if_ne (tgt := 95) hx hb dL_texts_71 (by decide) (fun c_71 => ?_) (fun c_71 => ?_)
            · have hM := if_f hM c_71
              refine lv_iconst (v := (nI 0)) hx hb dL_texts_95 (by decide) ?_
              have hz : bq (nI 0) = true := by decide
              obtain rfl := Option.some.inj hM
              exact hfin 96 _ _ _ dL_texts_96 hz hP hD hS
            · have hM := if_t hM c_71
              refine lv_aload_n hx hb dL_texts_74 rfl (lv_at hl 0 rfl) ?_
              obtain ⟨q_75, hc_75, hM⟩ := bd_some hM
              refine w_callV cx hP hD hS hA (co_loadGraph g l h_p1 al_h_p1 q_64.2 hc_75) (blk 0 127) pf_C ob_nd (obx_f rfl) (OB g h_p1 al_h_p1 q_75.2 ++ []) pf_S 0 8 rfl rfl yq_X8_loadGraph rfl m_276 m_277 m_278 m_17 m_279 ⟨Nat.le_of_ble_eq_true rfl, Nat.le_of_ble_eq_true rfl⟩ rfl rfl hl.1 (Nat.le_of_ble_eq_true rfl) dL_texts_75 ⟨Nat.le_refl 0, Nat.le_refl 0⟩ rfl (fun H locs hP hD hS => ?_)
              refine lv_if_ne (tgt := 95) hx hb dL_texts_78 (by decide) (fun c_78 => ?_) (fun c_78 => ?_)
              · have hM := if_f hM c_78
                refine lv_iconst (v := (nI 0)) hx hb dL_texts_95 (by decide) ?_
                have hz : bq (nI 0) = true := by decide
                obtain rfl := Option.some.inj hM
                exact hfin 96 _ _ _ dL_texts_96 hz hP hD hS
              · have hM := if_t hM c_78
                refine lv_aload_n hx hb dL_texts_81 rfl (lv_at hl 0 rfl) ?_
                obtain ⟨q_82, hc_82, hM⟩ := bd_some hM
                refine w_callV cx hP hD hS hA (co_edgeCount g l h_p1 al_h_p1 q_75.2 hc_82) (blk 0 127) pf_C ob_nd (obx_f rfl) (OB g h_p1 al_h_p1 q_82.2 ++ []) pf_S 0 8 rfl rfl yq_X8_edgeCount rfl m_324 m_325 m_326 m_17 m_327 ⟨Nat.le_of_ble_eq_true rfl, Nat.le_of_ble_eq_true rfl⟩ rfl rfl hl.1 (Nat.le_of_ble_eq_true rfl) dL_texts_82 ⟨Nat.le_refl 0, Nat.le_refl 0⟩ rfl (fun H locs hP hD hS => ?_)
                refine lv_if_ne (tgt := 95) hx hb dL_texts_85 (by decide) (fun c_85 => ?_) (fun c_85 => ?_)
                · have hM := if_f hM c_85
                  refine lv_iconst (v := (nI 0)) hx hb dL_texts_95 (by decide) ?_
                  have hz : bq (nI 0) = true := by decide
                  obtain rfl := Option.some.inj hM
                  exact hfin 96 _ _ _ dL_texts_96 hz hP hD hS
                · have hM := if_t hM c_85
                  refine lv_aload_n hx hb dL_texts_88 rfl (lv_at hl 0 rfl) ?_
                  obtain ⟨q_89, hc_89, hM⟩ := bd_some hM
                  refine w_callV cx hP hD hS hA (co_clearText g l h_p1 al_h_p1 q_82.2 hc_89) (blk 0 127) pf_C ob_nd (obx_f rfl) (OB g h_p1 al_h_p1 q_89.2 ++ []) pf_S 0 8 rfl rfl yq_X8_clearText rfl m_593 m_594 m_595 m_17 m_596 ⟨Nat.le_of_ble_eq_true rfl, Nat.le_of_ble_eq_true rfl⟩ rfl rfl hl.1 (Nat.le_of_ble_eq_true rfl) dL_texts_89 ⟨Nat.le_refl 0, Nat.le_refl 0⟩ rfl (fun H locs hP hD hS => ?_)
                  refine lv_if_eq (tgt := 97) hx hb dL_texts_92 (by decide) (fun c_92 => ?_) (fun c_92 => ?_)
                  · have hM := if_t hM c_92
                    exact hT_97 q_89.2 hM _ _ _ hP hD hS (lv_sub hl [0] rfl)
                  · have hM := if_f hM c_92
                    refine lv_iconst (v := (nI 0)) hx hb dL_texts_95 (by decide) ?_
                    have hz : bq (nI 0) = true := by decide
                    obtain rfl := Option.some.inj hM
                    exact hfin 96 _ _ _ dL_texts_96 hz hP hD hS
