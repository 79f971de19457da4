noncomputable def f_L_part (p1 : Int32) (p2 : Int32) : Option (Int32) :=
  nm (p1 &&& (nI 2147483647)) (fun (y_3 : Int32) => gd (nz p2) (some (y_3 - y_3 / p2 * p2)))
theorem yq_L_part : yq yL_part 2 := by unfold yq; decide +kernel
set_option maxHeartbeats 4000000 in
set_option maxRecDepth 100000 in
theorem c_L_part (g : GG) (l : Launch) (p1 : Int32) (p2 : Int32) {R : Int32} (hM : f_L_part p1 p2 = some R) : CT g l yL_part cL_part 2 (some .int) 0 0 [.int p1, .int p2] [] [] (some (.int R)) := by
  refine ct_i (by decide +kernel) (Nat.le_of_ble_eq_true rfl) ?_
  intro p e s m args below meth c Q A ls cx hP hD hA hl hfin
  obtain ⟨hx, hb, hml, hown, hts, hK⟩ := id cx
  have hl : lv_has ls 2 [(0, .int p1), (1, .int p2)] := hl
  have hS : va_S A s.heap s.heap [] := va_S.rf
  refine lv_iload_n hx hb dL_part_0 rfl (lv_at hl 0 rfl) ?_
  refine lv_ldc (v := (nI 2147483647)) hx hb hown (hts _ m_331) dL_part_1 ?_
  refine lv_iand hx hb dL_part_3 ?_
  refine lv_topi (fun y_3 ey_3 => ?_)
  have hM := nm_some hM y_3 ey_3
  refine lv_iload_n hx hb dL_part_4 rfl (lv_at hl 1 rfl) ?_
  obtain ⟨g_5, hM⟩ := gd_some hM
  refine lv_irem hx hb dL_part_5 (nz_ne g_5) ?_
  obtain rfl := Option.some.inj hM
  exact hfin 6 _ _ _ dL_part_6 hP hD hS
noncomputable def f_L_cell (Lx : Nat) (xs : Nat → Int32) (p2 : Int32) : Option (Int32) :=
  if (nI Lx) = 0 then some (((nI 7919) * p2) + (nI 3)) else gd (nz (nI Lx)) (gd (inb (p2 - p2 / (nI Lx) * (nI Lx)) Lx) (gd (nz (nI Lx)) (nm (p2 * (nI 2654435)) (fun (y_37 : Int32) => some ((((xs (p2 - p2 / (nI Lx) * (nI Lx)).toNatClampNeg) >>> ((p2 - p2 / (nI 7) * (nI 7)) &&& 31)) ^^^ ((p2 / (nI Lx)) * (nI 31))) ^^^ y_37)))))
theorem yq_L_cell : yq yL_cell 2 := by unfold yq; decide +kernel
set_option maxHeartbeats 4000000 in
set_option maxRecDepth 100000 in
theorem c_L_cell (g : GG) (l : Launch) (h_p1 : Nat) (Lx : Nat) (xs : Nat → Int32) (p2 : Int32) {R : Int32} (hM : f_L_cell Lx xs p2 = some R) : CX g l yL_cell cL_cell 2 (some .int) 0 0 [.ref h_p1, .int p2] [] [] (some (.int R)) h_p1 Lx xs := by
  refine cx_i (by decide +kernel) (Nat.le_of_ble_eq_true rfl) ?_
  intro p e s m args below meth c Q A ls cx hP hD hA hXs hbl hbA hl hfin
  obtain ⟨hx, hb, hml, hown, hts, hK⟩ := id cx
  have hl : lv_has ls 2 [(0, .ref h_p1), (1, .int p2)] := hl
  have hS : va_S A s.heap s.heap [] := va_S.rf
  refine lv_aload_n hx hb dL_cell_0 rfl (lv_at hl 0 rfl) ?_
  refine va_slen hx hb hXs hbl hbA hS dL_cell_1 ?_
  refine lv_if_ne (tgt := 15) hx hb dL_cell_2 (by decide) (fun c_2 => ?_) (fun c_2 => ?_)
  · have hM := if_f hM c_2
    refine lv_aload_n hx hb dL_cell_15 rfl (lv_at hl 0 rfl) ?_
    refine lv_iload_n hx hb dL_cell_16 rfl (lv_at hl 1 rfl) ?_
    refine lv_aload_n hx hb dL_cell_17 rfl (lv_at hl 0 rfl) ?_
    refine va_slen hx hb hXs hbl hbA hS dL_cell_18 ?_
    obtain ⟨g_19, hM⟩ := gd_some hM
    refine lv_irem hx hb dL_cell_19 (nz_ne g_19) ?_
    obtain ⟨g_20, hM⟩ := gd_some hM
    refine va_sld hx hb hXs hbl hbA hS (inb_in g_20) dL_cell_20 ?_
    refine lv_iload_n hx hb dL_cell_21 rfl (lv_at hl 1 rfl) ?_
    refine lv_bipush (v := (nI 7)) hx hb dL_cell_22 (by decide) ?_
    refine lv_irem hx hb dL_cell_24 (by decide) ?_
    refine lv_ishr hx hb dL_cell_25 ?_
    refine lv_iload_n hx hb dL_cell_26 rfl (lv_at hl 1 rfl) ?_
    refine lv_aload_n hx hb dL_cell_27 rfl (lv_at hl 0 rfl) ?_
    refine va_slen hx hb hXs hbl hbA hS dL_cell_28 ?_
    obtain ⟨g_29, hM⟩ := gd_some hM
    refine lv_idiv hx hb dL_cell_29 (nz_ne g_29) ?_
    refine lv_bipush (v := (nI 31)) hx hb dL_cell_30 (by decide) ?_
    refine lv_imul hx hb dL_cell_32 ?_
    refine lv_ixor hx hb dL_cell_33 ?_
    refine lv_iload_n hx hb dL_cell_34 rfl (lv_at hl 1 rfl) ?_
    refine lv_ldc (v := (nI 2654435)) hx hb hown (hts _ m_335) dL_cell_35 ?_
    refine lv_imul hx hb dL_cell_37 ?_
    refine lv_topi (fun y_37 ey_37 => ?_)
    have hM := nm_some hM y_37 ey_37
    refine lv_ixor hx hb dL_cell_38 ?_
    obtain rfl := Option.some.inj hM
    exact hfin 39 _ _ _ dL_cell_39 hP hD hS
  · have hM := if_t hM c_2
    refine lv_sipush (v := (nI 7919)) hx hb dL_cell_5 (by decide) ?_
    refine lv_iload_n hx hb dL_cell_8 rfl (lv_at hl 1 rfl) ?_
    refine lv_imul hx hb dL_cell_9 ?_
    refine lv_iconst (v := (nI 3)) hx hb dL_cell_10 (by decide) ?_
    refine lv_iadd hx hb dL_cell_11 ?_
    refine lv_goto (tgt := 39) hx hb dL_cell_12 (by decide) ?_
    obtain rfl := Option.some.inj hM
    exact hfin 39 _ _ _ dL_cell_39 hP hD hS
noncomputable def b_L_digest_49 : Int32 × Int64 × QS → Option ((Int32 × Int64 × QS) ⊕ ((Int64 × QS))) := fun z_49 =>
  if (nI 7) ≤ z_49.1 then some (.inr (z_49.2.1, z_49.2.2)) else bd (o_signedWalks z_49.1 z_49.2.2) (fun (q_65 : Int64 × QS) => bd (o_walks z_49.1 q_65.2) (fun (q_72 : Int64 × QS) => nm (((31 : Int64) * (((31 : Int64) * z_49.2.1) + q_65.1)) + q_72.1) (fun (x_76 : Int64) => some (.inl (z_49.1 + (nI 1), x_76, q_72.2)))))
noncomputable def b_L_digest_18 : Int32 × Int64 × QS → Option ((Int32 × Int64 × QS) ⊕ ((Int64 × QS))) := fun z_18 =>
  bd (o_edgeCount z_18.2.2) (fun (q_21 : Int32 × QS) => if ((nI 2) * q_21.1) ≤ z_18.1 then some (.inr (z_18.2.1, q_21.2)) else bd (o_headOf z_18.1 q_21.2) (fun (q_35 : Int32 × QS) => nm (((31 : Int64) * z_18.2.1) + q_35.1.toInt64) (fun (x_40 : Int64) => some (.inl (z_18.1 + (nI 1), x_40, q_35.2)))))
noncomputable def f_L_digest (S_p1 : QS) : Option (Int64 × QS) :=
  bd (o_vertexCount S_p1) (fun (q_4 : Int32 × QS) => bd (o_edgeCount q_4.2) (fun (q_10 : Int32 × QS) => nm (((31 : Int64) * q_4.1.toInt64) + q_10.1.toInt64) (fun (x_15 : Int64) => bd (wh b_L_digest_18 ((nI 0), x_15, q_10.2)) (fun (r_18 : Int64 × QS) => bd (wh b_L_digest_49 ((nI 1), r_18.1, r_18.2)) (fun (r_49 : Int64 × QS) => bd (o_isBalanced r_49.2) (fun (q_89 : Int32 × QS) => some (((31 : Int64) * r_49.1) + q_89.1.toInt64, q_89.2)))))))
theorem yq_L_digest : yq yL_digest 1 := by unfold yq; decide +kernel
set_option maxHeartbeats 4000000 in
set_option maxRecDepth 100000 in
theorem c_L_digest (g : GG) (l : Launch) (h_p1 : Nat) (al_h_p1 : Nat → Nat) (S_p1 : QS) {R : Int64 × QS} (hM : f_L_digest S_p1 = some R) : CT g l yL_digest cL_digest 4 (some .long) 5 123 [.ref h_p1] (OB g h_p1 al_h_p1 S_p1 ++ []) (OB g h_p1 al_h_p1 R.2 ++ []) (some (.long R.1)) := by
  refine ct_l (by decide +kernel) (Nat.le_of_ble_eq_true rfl) ?_
  intro p e s m args below meth c Q A ls cx hP hD hA hl hfin
  obtain ⟨hx, hb, hml, hown, hts, hK⟩ := id cx
  have hl : lv_has ls 4 [(0, .ref h_p1)] := hl
  have hS : va_S A s.heap s.heap [] := va_S.rf
  refine lv_ldc2 hx hb hown (hts _ m_346) dL_digest_0 ?_
  refine lv_aload_n hx hb dL_digest_3 rfl (lv_at hl 0 rfl) ?_
  obtain ⟨q_4, hc_4, hM⟩ := bd_some hM
  refine w_callV cx hP hD hS hA (co_vertexCount g l h_p1 al_h_p1 S_p1 hc_4) (blk 0 127) pf_C ob_nd (obx_f rfl) (OB g h_p1 al_h_p1 q_4.2 ++ []) pf_S 0 8 rfl rfl yq_X8_vertexCount rfl m_320 m_321 m_322 m_17 m_323 ⟨Nat.le_of_ble_eq_true rfl, Nat.le_of_ble_eq_true rfl⟩ rfl rfl hl.1 (Nat.le_of_ble_eq_true rfl) dL_digest_4 ⟨Nat.le_refl 0, Nat.le_refl 0⟩ rfl (fun H locs hP hD hS => ?_)
  refine lv_i2l (v := q_4.1.toInt64) hx hb dL_digest_7 rfl ?_
  refine lv_lmul hx hb dL_digest_8 ?_
  refine lv_aload_n hx hb dL_digest_9 rfl (lv_at hl 0 rfl) ?_
  obtain ⟨q_10, hc_10, hM⟩ := bd_some hM
  refine w_callV cx hP hD hS hA (co_edgeCount g l h_p1 al_h_p1 q_4.2 hc_10) (blk 0 127) pf_C ob_nd (obx_f rfl) (OB g h_p1 al_h_p1 q_10.2 ++ []) pf_S 0 8 rfl rfl yq_X8_edgeCount rfl m_324 m_325 m_326 m_17 m_327 ⟨Nat.le_of_ble_eq_true rfl, Nat.le_of_ble_eq_true rfl⟩ rfl rfl hl.1 (Nat.le_of_ble_eq_true rfl) dL_digest_10 ⟨Nat.le_refl 0, Nat.le_refl 0⟩ rfl (fun H locs hP hD hS => ?_)
  refine lv_i2l (v := q_10.1.toInt64) hx hb dL_digest_13 rfl ?_
  refine lv_ladd hx hb dL_digest_14 ?_
  refine lv_topl (fun x_15 ex_15 => ?_)
  have hM := nm_some hM x_15 ex_15
  refine lv_lstore_n (lv' := [(1, .long x_15), (0, .ref h_p1)]) hx hb dL_digest_15 rfl hl (by decide) rfl (fun ls hl => ?_)
  refine lv_iconst (v := (nI 0)) hx hb dL_digest_16 (by decide) ?_
  refine lv_istore_n (lv' := [(3, .int (nI 0)), (1, .long x_15), (0, .ref h_p1)]) hx hb dL_digest_17 rfl hl (by decide) rfl (fun ls hl => ?_)
  obtain ⟨r_18, hw, hM⟩ := bd_some hM
  obtain ⟨n, hn⟩ := wh_some hw
  clear hw
  have hE_18_0 : ∀ (H : Heap) (locs : List Loc) (ls : Array Slot), va_P (gD g) vwCl (OB g h_p1 al_h_p1 r_18.2 ++ []) H → va_D A (OB g h_p1 al_h_p1 r_18.2 ++ []) → va_S A s.heap H locs → lv_has ls 4 [(1, .long r_18.1), (0, .ref h_p1)] → W p l e (rmv 5 123) s m args below meth c H locs 0 0 Q (F0 m 47 ls []) := by
    intro H locs ls hP hD hS hl
    refine lv_iconst (v := (nI 1)) hx hb dL_digest_47 (by decide) ?_
    refine lv_istore_n (lv' := [(3, .int (nI 1)), (1, .long r_18.1), (0, .ref h_p1)]) hx hb dL_digest_48 rfl hl (by decide) rfl (fun ls hl => ?_)
    obtain ⟨r_49, hw, hM⟩ := bd_some hM
    obtain ⟨n, hn⟩ := wh_some hw
    clear hw
    have hE_49_0 : ∀ (H : Heap) (locs : List Loc) (ls : Array Slot), va_P (gD g) vwCl (OB g h_p1 al_h_p1 r_49.2 ++ []) H → va_D A (OB g h_p1 al_h_p1 r_49.2 ++ []) → va_S A s.heap H locs → lv_has ls 4 [(1, .long r_49.1), (0, .ref h_p1)] → W p l e (rmv 5 123) s m args below meth c H locs 0 0 Q (F0 m 83 ls []) := by
      intro H locs ls hP hD hS hl
      refine lv_ldc2 hx hb hown (hts _ m_346) dL_digest_83 ?_
      refine lv_lload_n hx hb dL_digest_86 rfl (lv_at hl 0 rfl) ?_
      refine lv_lmul hx hb dL_digest_87 ?_
      refine lv_aload_n hx hb dL_digest_88 rfl (lv_at hl 1 rfl) ?_
      obtain ⟨q_89, hc_89, hM⟩ := bd_some hM
      refine w_callV cx hP hD hS hA (co_isBalanced g l h_p1 al_h_p1 r_49.2 hc_89) (blk 0 127) pf_C ob_nd (obx_f rfl) (OB g h_p1 al_h_p1 q_89.2 ++ []) pf_S 0 8 rfl rfl yq_X8_isBalanced rfl m_396 m_397 m_398 m_17 m_399 ⟨Nat.le_of_ble_eq_true rfl, Nat.le_of_ble_eq_true rfl⟩ rfl rfl hl.1 (Nat.le_of_ble_eq_true rfl) dL_digest_89 ⟨Nat.le_refl 0, Nat.le_refl 0⟩ rfl (fun H locs hP hD hS => ?_)
      refine lv_i2l (v := q_89.1.toInt64) hx hb dL_digest_92 rfl ?_
      refine lv_ladd hx hb dL_digest_93 ?_
      obtain rfl := Option.some.inj hM
      exact hfin 94 _ _ _ dL_digest_94 hP hD hS
    clear hM
    have hL_49 : ∀ (n : Nat) (z_49 : Int32 × Int64 × QS), it b_L_digest_49 n z_49 = some r_49 → ∀ (H : Heap) (locs : List Loc) (ls : Array Slot), va_P (gD g) vwCl (OB g h_p1 al_h_p1 z_49.2.2 ++ []) H → va_D A (OB g h_p1 al_h_p1 z_49.2.2 ++ []) → va_S A s.heap H locs → lv_has ls 4 [(3, .int z_49.1), (1, .long z_49.2.1), (0, .ref h_p1)] → W p l e (rmv 5 123) s m args below meth c H locs 0 0 Q (F0 m 49 ls []) := by
      intro n
      induction n with
      | zero => intro z_49 hn; exact (it_zero hn).elim
      | succ n ih =>
        intro z_49 hn H locs ls hP hD hS hl
        obtain ⟨x, hM, hX⟩ := it_succ hn
        clear hn
        refine lv_iload_n hx hb dL_digest_49 rfl (lv_at hl 0 rfl) ?_
        refine lv_bipush (v := (nI 7)) hx hb dL_digest_50 (by decide) ?_
        refine lv_icmp_ge (tgt := 83) hx hb dL_digest_52 (by decide) (fun c_52 => ?_) (fun c_52 => ?_)
        · have hM := if_t hM c_52
          obtain rfl := Option.some.inj hM
          obtain rfl : _ = r_49 := hX
          exact hE_49_0 _ _ _ hP hD hS (lv_sub hl [1, 2] rfl)
        · have hM := if_f hM c_52
          refine lv_ldc2 hx hb hown (hts _ m_346) dL_digest_55 ?_
          refine lv_ldc2 hx hb hown (hts _ m_346) dL_digest_58 ?_
          refine lv_lload_n hx hb dL_digest_61 rfl (lv_at hl 1 rfl) ?_
          refine lv_lmul hx hb dL_digest_62 ?_
          refine lv_aload_n hx hb dL_digest_63 rfl (lv_at hl 2 rfl) ?_
          refine lv_iload_n hx hb dL_digest_64 rfl (lv_at hl 0 rfl) ?_
          obtain ⟨q_65, hc_65, hM⟩ := bd_some hM
          refine w_callV cx hP hD hS hA (co_signedWalks g l h_p1 al_h_p1 z_49.1 z_49.2.2 hc_65) (blk 0 127) pf_C ob_nd (obx_f rfl) (OB g h_p1 al_h_p1 q_65.2 ++ []) pf_S 0 8 rfl rfl yq_X8_signedWalks rfl m_359 m_360 m_361 m_17 m_362 ⟨Nat.le_of_ble_eq_true rfl, Nat.le_of_ble_eq_true rfl⟩ rfl rfl hl.1 (Nat.le_of_ble_eq_true rfl) dL_digest_65 ⟨Nat.le_refl 0, Nat.le_refl 0⟩ rfl (fun H locs hP hD hS => ?_)
          refine lv_ladd hx hb dL_digest_68 ?_
          refine lv_lmul hx hb dL_digest_69 ?_
          refine lv_aload_n hx hb dL_digest_70 rfl (lv_at hl 2 rfl) ?_
          refine lv_iload_n hx hb dL_digest_71 rfl (lv_at hl 0 rfl) ?_
          obtain ⟨q_72, hc_72, hM⟩ := bd_some hM
          refine w_callV cx hP hD hS hA (co_walks g l h_p1 al_h_p1 z_49.1 q_65.2 hc_72) (blk 0 127) pf_C ob_nd (obx_f rfl) (OB g h_p1 al_h_p1 q_72.2 ++ []) pf_S 0 8 rfl rfl yq_X8_walks rfl m_388 m_389 m_390 m_17 m_391 ⟨Nat.le_of_ble_eq_true rfl, Nat.le_of_ble_eq_true rfl⟩ rfl rfl hl.1 (Nat.le_of_ble_eq_true rfl) dL_digest_72 ⟨Nat.le_refl 0, Nat.le_refl 0⟩ rfl (fun H locs hP hD hS => ?_)
          refine lv_ladd hx hb dL_digest_75 ?_
          refine lv_topl (fun x_76 ex_76 => ?_)
          have hM := nm_some hM x_76 ex_76
          refine lv_lstore_n (lv' := [(1, .long x_76), (3, .int z_49.1), (0, .ref h_p1)]) hx hb dL_digest_76 rfl hl (by decide) rfl (fun ls hl => ?_)
          refine lv_iinc (v := z_49.1 + (nI 1)) (lv' := [(3, .int (z_49.1 + (nI 1))), (1, .long x_76), (0, .ref h_p1)]) hx hb dL_digest_77 hl (k := 1) rfl (congrArg (fun q => z_49.1 + q) (show Int32.ofInt (1) = (nI 1) by decide)) (by decide) rfl (fun ls hl => ?_)
          refine lv_goto (tgt := 49) hx hb dL_digest_80 (by decide) ?_
          obtain rfl := Option.some.inj hM
          exact ih _ hX _ _ _ hP hD hS (lv_sub hl [0, 1, 2] rfl)
    exact hL_49 n _ hn _ _ _ hP hD hS (lv_sub hl [0, 1, 2] rfl)
  clear hM
  have hL_18 : ∀ (n : Nat) (z_18 : Int32 × Int64 × QS), it b_L_digest_18 n z_18 = some r_18 → ∀ (H : Heap) (locs : List Loc) (ls : Array Slot), va_P (gD g) vwCl (OB g h_p1 al_h_p1 z_18.2.2 ++ []) H → va_D A (OB g h_p1 al_h_p1 z_18.2.2 ++ []) → va_S A s.heap H locs → lv_has ls 4 [(3, .int z_18.1), (1, .long z_18.2.1), (0, .ref h_p1)] → W p l e (rmv 5 123) s m args below meth c H locs 0 0 Q (F0 m 18 ls []) := by
    intro n
    induction n with
    | zero => intro z_18 hn; exact (it_zero hn).elim
    | succ n ih =>
      intro z_18 hn H locs ls hP hD hS hl
      obtain ⟨x, hM, hX⟩ := it_succ hn
      clear hn
      refine lv_iload_n hx hb dL_digest_18 rfl (lv_at hl 0 rfl) ?_
      refine lv_iconst (v := (nI 2)) hx hb dL_digest_19 (by decide) ?_
      refine lv_aload_n hx hb dL_digest_20 rfl (lv_at hl 2 rfl) ?_
      obtain ⟨q_21, hc_21, hM⟩ := bd_some hM
      refine w_callV cx hP hD hS hA (co_edgeCount g l h_p1 al_h_p1 z_18.2.2 hc_21) (blk 0 127) pf_C ob_nd (obx_f rfl) (OB g h_p1 al_h_p1 q_21.2 ++ []) pf_S 0 8 rfl rfl yq_X8_edgeCount rfl m_324 m_325 m_326 m_17 m_327 ⟨Nat.le_of_ble_eq_true rfl, Nat.le_of_ble_eq_true rfl⟩ rfl rfl hl.1 (Nat.le_of_ble_eq_true rfl) dL_digest_21 ⟨Nat.le_refl 0, Nat.le_refl 0⟩ rfl (fun H locs hP hD hS => ?_)
      refine lv_imul hx hb dL_digest_24 ?_
      refine lv_icmp_ge (tgt := 47) hx hb dL_digest_25 (by decide) (fun c_25 => ?_) (fun c_25 => ?_)
      · have hM := if_t hM c_25
        obtain rfl := Option.some.inj hM
        obtain rfl : _ = r_18 := hX
        exact hE_18_0 _ _ _ hP hD hS (lv_sub hl [1, 2] rfl)
      · have hM := if_f hM c_25
        refine lv_ldc2 hx hb hown (hts _ m_346) dL_digest_28 ?_
        refine lv_lload_n hx hb dL_digest_31 rfl (lv_at hl 1 rfl) ?_
        refine lv_lmul hx hb dL_digest_32 ?_
        refine lv_aload_n hx hb dL_digest_33 rfl (lv_at hl 2 rfl) ?_
        refine lv_iload_n hx hb dL_digest_34 rfl (lv_at hl 0 rfl) ?_
        obtain ⟨q_35, hc_35, hM⟩ := bd_some hM
        refine w_callV cx hP hD hS hA (co_headOf g l h_p1 al_h_p1 z_18.1 q_21.2 hc_35) (blk 0 127) pf_C ob_nd (obx_f rfl) (OB g h_p1 al_h_p1 q_35.2 ++ []) pf_S 0 8 rfl rfl yq_X8_headOf rfl m_347 m_348 m_349 m_17 m_350 ⟨Nat.le_of_ble_eq_true rfl, Nat.le_of_ble_eq_true rfl⟩ rfl rfl hl.1 (Nat.le_of_ble_eq_true rfl) dL_digest_35 ⟨Nat.le_refl 0, Nat.le_refl 0⟩ rfl (fun H locs hP hD hS => ?_)
        refine lv_i2l (v := q_35.1.toInt64) hx hb dL_digest_38 rfl ?_
        refine lv_ladd hx hb dL_digest_39 ?_
        refine lv_topl (fun x_40 ex_40 => ?_)
        have hM := nm_some hM x_40 ex_40
        refine lv_lstore_n (lv' := [(1, .long x_40), (3, .int z_18.1), (0, .ref h_p1)]) hx hb dL_digest_40 rfl hl (by decide) rfl (fun ls hl => ?_)
        refine lv_iinc (v := z_18.1 + (nI 1)) (lv' := [(3, .int (z_18.1 + (nI 1))), (1, .long x_40), (0, .ref h_p1)]) hx hb dL_digest_41 hl (k := 1) rfl (congrArg (fun q => z_18.1 + q) (show Int32.ofInt (1) = (nI 1) by decide)) (by decide) rfl (fun ls hl => ?_)
        refine lv_goto (tgt := 18) hx hb dL_digest_44 (by decide) ?_
        obtain rfl := Option.some.inj hM
        exact ih _ hX _ _ _ hP hD hS (lv_sub hl [0, 1, 2] rfl)
  exact hL_18 n _ hn _ _ _ hP hD hS (lv_sub hl [0, 1, 2] rfl)
noncomputable def b_L_types_6 (p2 : Int64) : Int32 × Int32 × QS → Option ((Int32 × Int32 × QS) ⊕ ((Int32 × QS))) := fun z_6 =>
  if z_6.1 < 0 then some (.inr (z_6.2.1, z_6.2.2)) else nm (((p2 >>> (((nI 8) * z_6.1).toInt64 &&& 63)) &&& (255 : Int64)).toInt32) (fun (x_23 : Int32) => if x_23 = 0 then nm (z_6.1 + (nI 4294967295)) (fun (x_37 : Int32) => some (.inl (x_37, z_6.2.1, z_6.2.2))) else bd (o_appendCharacter x_23 z_6.2.2) (fun (q_33 : Int32 × QS) => nm (z_6.1 + (nI 4294967295)) (fun (x_37 : Int32) => some (.inl (x_37, q_33.1, q_33.2)))))
noncomputable def f_L_types (p2 : Int64) (S_p1 : QS) : Option (Int32 × QS) :=
  bd (wh (b_L_types_6 p2) ((nI 7), (nI 0), S_p1)) (fun (r_6 : Int32 × QS) => some (r_6.1, r_6.2))
theorem yq_L_types : yq yL_types 2 := by unfold yq; decide +kernel
set_option maxHeartbeats 4000000 in
set_option maxRecDepth 100000 in
theorem c_L_types (g : GG) (l : Launch) (h_p1 : Nat) (al_h_p1 : Nat → Nat) (p2 : Int64) (S_p1 : QS) {R : Int32 × QS} (hM : f_L_types p2 S_p1 = some R) : CT g l yL_types cL_types 6 (some .int) 2 42 [.ref h_p1, .long p2] (OB g h_p1 al_h_p1 S_p1 ++ []) (OB g h_p1 al_h_p1 R.2 ++ []) (some (.int R.1)) := by
  refine ct_i (by decide +kernel) (Nat.le_of_ble_eq_true rfl) ?_
  intro p e s m args below meth c Q A ls cx hP hD hA hl hfin
  obtain ⟨hx, hb, hml, hown, hts, hK⟩ := id cx
  have hl : lv_has ls 6 [(0, .ref h_p1), (1, .long p2)] := hl
  have hS : va_S A s.heap s.heap [] := va_S.rf
  refine lv_iconst (v := (nI 0)) hx hb dL_types_0 (by decide) ?_
  refine lv_istore_n (lv' := [(3, .int (nI 0)), (0, .ref h_p1), (1, .long p2)]) hx hb dL_types_1 rfl hl (by decide) rfl (fun ls hl => ?_)
  refine lv_bipush (v := (nI 7)) hx hb dL_types_2 (by decide) ?_
  refine lv_istore (lv' := [(4, .int (nI 7)), (3, .int (nI 0)), (0, .ref h_p1), (1, .long p2)]) hx hb dL_types_4 hl (by decide) rfl (fun ls hl => ?_)
  obtain ⟨r_6, hw, hM⟩ := bd_some hM
  obtain ⟨n, hn⟩ := wh_some hw
  clear hw
  have hE_6_0 : ∀ (H : Heap) (locs : List Loc) (ls : Array Slot), va_P (gD g) vwCl (OB g h_p1 al_h_p1 r_6.2 ++ []) H → va_D A (OB g h_p1 al_h_p1 r_6.2 ++ []) → va_S A s.heap H locs → lv_has ls 6 [(3, .int r_6.1)] → W p l e (rmv 2 42) s m args below meth c H locs 0 0 Q (F0 m 43 ls []) := by
    intro H locs ls hP hD hS hl
    refine lv_iload_n hx hb dL_types_43 rfl (lv_at hl 0 rfl) ?_
    obtain rfl := Option.some.inj hM
    exact hfin 44 _ _ _ dL_types_44 hP hD hS
  clear hM
  have hL_6 : ∀ (n : Nat) (z_6 : Int32 × Int32 × QS), it (b_L_types_6 p2) n z_6 = some r_6 → ∀ (H : Heap) (locs : List Loc) (ls : Array Slot), va_P (gD g) vwCl (OB g h_p1 al_h_p1 z_6.2.2 ++ []) H → va_D A (OB g h_p1 al_h_p1 z_6.2.2 ++ []) → va_S A s.heap H locs → lv_has ls 6 [(4, .int z_6.1), (3, .int z_6.2.1), (0, .ref h_p1), (1, .long p2)] → W p l e (rmv 2 42) s m args below meth c H locs 0 0 Q (F0 m 6 ls []) := by
    intro n
    induction n with
    | zero => intro z_6 hn; exact (it_zero hn).elim
    | succ n ih =>
      intro z_6 hn H locs ls hP hD hS hl
      obtain ⟨x, hM, hX⟩ := it_succ hn
      clear hn
      refine lv_iload hx hb dL_types_6 (lv_at hl 0 rfl) ?_
      refine lv_if_lt (tgt := 43) hx hb dL_types_8 (by decide) (fun c_8 => ?_) (fun c_8 => ?_)
      · have hM := if_t hM c_8
        obtain rfl := Option.some.inj hM
        obtain rfl : _ = r_6 := hX
        exact hE_6_0 _ _ _ hP hD hS (lv_sub hl [1] rfl)
      · have hM := if_f hM c_8
        refine lv_lload_n hx hb dL_types_11 rfl (lv_at hl 3 rfl) ?_
        refine lv_bipush (v := (nI 8)) hx hb dL_types_12 (by decide) ?_
        refine lv_iload hx hb dL_types_14 (lv_at hl 0 rfl) ?_
        refine lv_imul hx hb dL_types_16 ?_
        refine lv_lshr (v := p2 >>> (((nI 8) * z_6.1).toInt64 &&& 63)) hx hb dL_types_17 rfl ?_
        refine lv_ldc2 hx hb hown (hts _ m_590) dL_types_18 ?_
        refine lv_land hx hb dL_types_21 ?_
        refine lv_l2i (v := ((p2 >>> (((nI 8) * z_6.1).toInt64 &&& 63)) &&& (255 : Int64)).toInt32) hx hb dL_types_22 rfl ?_
        refine lv_topi (fun x_23 ex_23 => ?_)
        have hM := nm_some hM x_23 ex_23
        refine lv_istore (lv' := [(5, .int x_23), (4, .int z_6.1), (3, .int z_6.2.1), (0, .ref h_p1), (1, .long p2)]) hx hb dL_types_23 hl (by decide) rfl (fun ls hl => ?_)
        refine lv_iload hx hb dL_types_25 (lv_at hl 0 rfl) ?_
        refine lv_if_eq (tgt := 37) hx hb dL_types_27 (by decide) (fun c_27 => ?_) (fun c_27 => ?_)
        · have hM := if_t hM c_27
          obtain ⟨x_37, ex_37⟩ : ∃ q : Int32, q = z_6.1 + (nI 4294967295) := ⟨_, rfl⟩
          have hM := nm_some hM x_37 ex_37
          refine lv_iinc (v := x_37) (lv' := [(4, .int x_37), (5, .int x_23), (3, .int z_6.2.1), (0, .ref h_p1), (1, .long p2)]) hx hb dL_types_37 hl (k := 1) rfl ((congrArg (fun q => z_6.1 + q) (show Int32.ofInt (-1) = (nI 4294967295) by decide)).trans ex_37.symm) (by decide) rfl (fun ls hl => ?_)
          refine lv_goto (tgt := 6) hx hb dL_types_40 (by decide) ?_
          obtain rfl := Option.some.inj hM
          exact ih _ hX _ _ _ hP hD hS (lv_sub hl [0, 2, 3, 4] rfl)
        · have hM := if_f hM c_27
          refine lv_aload_n hx hb dL_types_30 rfl (lv_at hl 3 rfl) ?_
          refine lv_iload hx hb dL_types_31 (lv_at hl 0 rfl) ?_
          obtain ⟨q_33, hc_33, hM⟩ := bd_some hM
          refine w_callV cx hP hD hS hA (co_appendCharacter g l h_p1 al_h_p1 x_23 z_6.2.2 hc_33) (blk 0 127) pf_C ob_nd (obx_f rfl) (OB g h_p1 al_h_p1 q_33.2 ++ []) pf_S 0 8 rfl rfl yq_X8_appendCharacter rfl m_419 m_420 m_421 m_17 m_422 ⟨Nat.le_of_ble_eq_true rfl, Nat.le_of_ble_eq_true rfl⟩ rfl rfl hl.1 (Nat.le_of_ble_eq_true rfl) dL_types_33 ⟨Nat.le_refl 0, Nat.le_refl 0⟩ rfl (fun H locs hP hD hS => ?_)
          refine lv_istore_n (lv' := [(3, .int q_33.1), (5, .int x_23), (4, .int z_6.1), (0, .ref h_p1), (1, .long p2)]) hx hb dL_types_36 rfl hl (by decide) rfl (fun ls hl => ?_)
          obtain ⟨x_37, ex_37⟩ : ∃ q : Int32, q = z_6.1 + (nI 4294967295) := ⟨_, rfl⟩
          have hM := nm_some hM x_37 ex_37
          refine lv_iinc (v := x_37) (lv' := [(4, .int x_37), (3, .int q_33.1), (5, .int x_23), (0, .ref h_p1), (1, .long p2)]) hx hb dL_types_37 hl (k := 2) rfl ((congrArg (fun q => z_6.1 + q) (show Int32.ofInt (-1) = (nI 4294967295) by decide)).trans ex_37.symm) (by decide) rfl (fun ls hl => ?_)
          refine lv_goto (tgt := 6) hx hb dL_types_40 (by decide) ?_
          obtain rfl := Option.some.inj hM
          exact ih _ hX _ _ _ hP hD hS (lv_sub hl [0, 1, 3, 4] rfl)
  exact hL_6 n _ hn _ _ _ hP hD hS (lv_sub hl [0, 1, 2, 3] rfl)
