noncomputable def b_L_builds_55 (Lx : Nat) (xs : Nat → Int32) (p4 : Int32) (p5 : Int32) (n_p2 : Nat) (j_31 : Int32) : Int32 × QS × (Nat → Int32) → Option ((Int32 × QS × (Nat → Int32)) ⊕ ((QS × (Nat → Int32)) ⊕ (QS × (Nat → Int32)))) := fun z_55 =>
  if j_31 ≤ z_55.1 then some (.inr (.inr (z_55.2.1, z_55.2.2))) else bd (f_L_cell Lx xs ((p4 + (nI 1)) + z_55.1)) (fun (q_69 : Int32) => bd (f_L_part q_69 p5) (fun (q_78 : Int32) => bd (f_L_part (q_69 >>> ((nI 4) &&& 31)) (p5 - (nI 1))) (fun (q_95 : Int32) => gd (nz p5) (nm (((q_78 + (nI 1)) + q_95) - ((q_78 + (nI 1)) + q_95) / p5 * p5) (fun (x_102 : Int32) => bd (f_L_part (q_69 >>> ((nI 9) &&& 31)) (nI 3)) (fun (q_110 : Int32) => bd (if q_110 = 0 then some (nI 4294967295) else some (nI 1)) (fun (j_113 : Int32) => gd (inb ((nI 2) + ((nI 3) * z_55.1)) n_p2) (gd (inb ((nI 3) + ((nI 3) * z_55.1)) n_p2) (gd (inb ((nI 4) + ((nI 3) * z_55.1)) n_p2) (gd (inb (nI 1) n_p2) (gd (inb (nI 1) n_p2) (bd (o_addEdge q_78 x_102 j_113 z_55.2.1) (fun (q_167 : Int32 × QS) => if q_167.1 = z_55.1 then some (.inl (z_55.1 + (nI 1), q_167.2, upd (upd (upd (upd z_55.2.2 ((nI 2) + ((nI 3) * z_55.1)).toNatClampNeg q_78) ((nI 3) + ((nI 3) * z_55.1)).toNatClampNeg x_102) ((nI 4) + ((nI 3) * z_55.1)).toNatClampNeg j_113) (nI 1).toNatClampNeg (((upd (upd (upd z_55.2.2 ((nI 2) + ((nI 3) * z_55.1)).toNatClampNeg q_78) ((nI 3) + ((nI 3) * z_55.1)).toNatClampNeg x_102) ((nI 4) + ((nI 3) * z_55.1)).toNatClampNeg j_113) (nI 1).toNatClampNeg) + (nI 1)))) else some (.inr (.inl (q_167.2, upd (upd (upd (upd z_55.2.2 ((nI 2) + ((nI 3) * z_55.1)).toNatClampNeg q_78) ((nI 3) + ((nI 3) * z_55.1)).toNatClampNeg x_102) ((nI 4) + ((nI 3) * z_55.1)).toNatClampNeg j_113) (nI 1).toNatClampNeg (((upd (upd (upd z_55.2.2 ((nI 2) + ((nI 3) * z_55.1)).toNatClampNeg q_78) ((nI 3) + ((nI 3) * z_55.1)).toNatClampNeg x_102) ((nI 4) + ((nI 3) * z_55.1)).toNatClampNeg j_113) (nI 1).toNatClampNeg) + (nI 1))))))))))))))))))
noncomputable def f_L_builds (Lx : Nat) (xs : Nat → Int32) (p4 : Int32) (p5 : Int32) (p6 : Int32) (S_p1 : QS) (n_p2 : Nat) (a_p2 : Nat → Int32) : Option (Int32 × QS × (Nat → Int32)) :=
  gd (inb (nI 0) n_p2) (gd (inb (nI 1) n_p2) (bd (o_vertexCount S_p1) (fun (q_10 : Int32 × QS) => bd (o_configure p5 q_10.2) (fun (q_18 : Int32 × QS) => if q_18.1 = q_10.1 then bd (if p5 = (nI 1) then some (nI 0) else bd (f_L_cell Lx xs p4) (fun (q_40 : Int32) => bd (f_L_part q_40 (p6 + (nI 1))) (fun (q_47 : Int32) => some q_47))) (fun (j_31 : Int32) => bd (wh (b_L_builds_55 Lx xs p4 p5 n_p2 j_31) ((nI 0), q_18.2, upd (upd a_p2 (nI 0).toNatClampNeg p5) (nI 1).toNatClampNeg (nI 0))) (fun (r_55 : (QS × (Nat → Int32)) ⊕ (QS × (Nat → Int32))) => ex2 r_55 (fun (r_55_0 : QS × (Nat → Int32)) => some ((nI 0), r_55_0.1, r_55_0.2)) (fun (r_55_1 : QS × (Nat → Int32)) => some ((nI 1), r_55_1.1, r_55_1.2)))) else some ((nI 0), q_18.2, upd (upd a_p2 (nI 0).toNatClampNeg p5) (nI 1).toNatClampNeg (nI 0))))))
theorem yq_L_builds : yq yL_builds 6 := by unfold yq; decide +kernel
set_option maxHeartbeats 4000000 in
set_option maxRecDepth 100000 in
theorem c_L_builds (g : GG) (l : Launch) (h_p3 : Nat) (h_p1 : Nat) (h_p2 : Nat) (al_h_p1 : Nat → Nat) (Lx : Nat) (xs : Nat → Int32) (p4 : Int32) (p5 : Int32) (p6 : Int32) (S_p1 : QS) (n_p2 : Nat) (a_p2 : Nat → Int32) {R : Int32 × QS × (Nat → Int32)} (hM : f_L_builds Lx xs p4 p5 p6 S_p1 n_p2 a_p2 = some R) : CX g l yL_builds cL_builds 13 (some .boolean) 3 66 [.ref h_p1, .ref h_p2, .ref h_p3, .int p4, .int p5, .int p6] (OB g h_p1 al_h_p1 S_p1 ++ [aI g h_p2 n_p2 a_p2]) (OB g h_p1 al_h_p1 R.2.1 ++ [aI g h_p2 n_p2 R.2.2]) (some (.int R.1)) h_p3 Lx xs := by
  refine cx_z (by decide +kernel) (Nat.le_of_ble_eq_true rfl) ?_
  intro p e s m args below meth c Q A ls cx hP hD hA hXs hbl hbA hl hfin
  obtain ⟨hx, hb, hml, hown, hts, hK⟩ := id cx
  have hl : lv_has ls 13 [(0, .ref h_p1), (1, .ref h_p2), (2, .ref h_p3), (3, .int p4), (4, .int p5), (5, .int p6)] := hl
  have hS : va_S A s.heap s.heap [] := va_S.rf
  refine lv_aload_n hx hb dL_builds_0 rfl (lv_at hl 1 rfl) ?_
  refine lv_iconst (v := (nI 0)) hx hb dL_builds_1 (by decide) ?_
  refine lv_iload hx hb dL_builds_2 (lv_at hl 4 rfl) ?_
  obtain ⟨g_4, hM⟩ := gd_some hM
  refine w_iast cx hP hD hS (127 + 0) (ob_at rfl) g_4 dL_builds_4 (OB g h_p1 al_h_p1 S_p1 ++ [aI g h_p2 n_p2 (upd a_p2 (nI 0).toNatClampNeg p5)]) ob_set (fun H locs hP hD hS => ?_)
  refine lv_aload_n hx hb dL_builds_5 rfl (lv_at hl 1 rfl) ?_
  refine lv_iconst (v := (nI 1)) hx hb dL_builds_6 (by decide) ?_
  refine lv_iconst (v := (nI 0)) hx hb dL_builds_7 (by decide) ?_
  obtain ⟨g_8, hM⟩ := gd_some hM
  refine w_iast cx hP hD hS (127 + 0) (ob_at rfl) g_8 dL_builds_8 (OB g h_p1 al_h_p1 S_p1 ++ [aI g h_p2 n_p2 (upd (upd a_p2 (nI 0).toNatClampNeg p5) (nI 1).toNatClampNeg (nI 0))]) ob_set (fun H locs hP hD hS => ?_)
  refine lv_aload_n hx hb dL_builds_9 rfl (lv_at hl 0 rfl) ?_
  obtain ⟨q_10, hc_10, hM⟩ := bd_some hM
  refine w_callV cx hP hD hS hA (co_vertexCount g l h_p1 al_h_p1 S_p1 hc_10) (blk 0 127) pf_C ob_nd (obx_f rfl) (OB g h_p1 al_h_p1 q_10.2 ++ [aI g h_p2 n_p2 (upd (upd a_p2 (nI 0).toNatClampNeg p5) (nI 1).toNatClampNeg (nI 0))]) pf_S 0 8 rfl rfl yq_X8_vertexCount rfl m_320 m_321 m_322 m_17 m_323 ⟨Nat.le_of_ble_eq_true rfl, Nat.le_of_ble_eq_true rfl⟩ rfl rfl hl.1 (Nat.le_of_ble_eq_true rfl) dL_builds_10 ⟨Nat.le_refl 0, Nat.le_refl 0⟩ rfl (fun H locs hP hD hS => ?_)
  refine lv_istore (lv' := [(6, .int q_10.1), (0, .ref h_p1), (1, .ref h_p2), (2, .ref h_p3), (3, .int p4), (4, .int p5), (5, .int p6)]) hx hb dL_builds_13 hl (by decide) rfl (fun ls hl => ?_)
  refine lv_aload_n hx hb dL_builds_15 rfl (lv_at hl 1 rfl) ?_
  refine lv_iload hx hb dL_builds_16 (lv_at hl 5 rfl) ?_
  obtain ⟨q_18, hc_18, hM⟩ := bd_some hM
  refine w_callV cx hP hD hS hA (co_configure g l h_p1 al_h_p1 p5 q_10.2 hc_18) (blk 0 127) pf_C ob_nd (obx_f rfl) (OB g h_p1 al_h_p1 q_18.2 ++ [aI g h_p2 n_p2 (upd (upd a_p2 (nI 0).toNatClampNeg p5) (nI 1).toNatClampNeg (nI 0))]) pf_S 0 8 rfl rfl yq_X8_configure rfl m_339 m_340 m_341 m_17 m_342 ⟨Nat.le_of_ble_eq_true rfl, Nat.le_of_ble_eq_true rfl⟩ rfl rfl hl.1 (Nat.le_of_ble_eq_true rfl) dL_builds_18 ⟨Nat.le_refl 0, Nat.le_refl 0⟩ rfl (fun H locs hP hD hS => ?_)
  refine lv_iload hx hb dL_builds_21 (lv_at hl 0 rfl) ?_
  refine lv_icmp_eq (tgt := 28) hx hb dL_builds_23 (by decide) (fun c_23 => ?_) (fun c_23 => ?_)
  · have hM := if_t hM c_23
    refine lv_iload hx hb dL_builds_28 (lv_at hl 5 rfl) ?_
    refine lv_iconst (v := (nI 1)) hx hb dL_builds_30 (by decide) ?_
    obtain ⟨j_31, hB, hM⟩ := bd_some hM
    have hJ_31 : ∀ (H : Heap) (locs : List Loc) (ls : Array Slot), va_P (gD g) vwCl (OB g h_p1 al_h_p1 q_18.2 ++ [aI g h_p2 n_p2 (upd (upd a_p2 (nI 0).toNatClampNeg p5) (nI 1).toNatClampNeg (nI 0))]) H → va_D A (OB g h_p1 al_h_p1 q_18.2 ++ [aI g h_p2 n_p2 (upd (upd a_p2 (nI 0).toNatClampNeg p5) (nI 1).toNatClampNeg (nI 0))]) → va_S A s.heap H locs → lv_has ls 13 [(0, .ref h_p1), (1, .ref h_p2), (2, .ref h_p3), (3, .int p4), (4, .int p5)] → W p l e (rmv 3 66) s m args below meth c H locs 0 0 Q (F0 m 50 ls [.int j_31]) := by
      intro H locs ls hP hD hS hl
      refine lv_istore (lv' := [(7, .int j_31), (0, .ref h_p1), (1, .ref h_p2), (2, .ref h_p3), (3, .int p4), (4, .int p5)]) hx hb dL_builds_50 hl (by decide) rfl (fun ls hl => ?_)
      refine lv_iconst (v := (nI 0)) hx hb dL_builds_52 (by decide) ?_
      refine lv_istore (lv' := [(8, .int (nI 0)), (7, .int j_31), (0, .ref h_p1), (1, .ref h_p2), (2, .ref h_p3), (3, .int p4), (4, .int p5)]) hx hb dL_builds_53 hl (by decide) rfl (fun ls hl => ?_)
      obtain ⟨r_55, hw, hM⟩ := bd_some hM
      obtain ⟨n, hn⟩ := wh_some hw
      clear hw
      have hE_55_0 : ∀ (r_55_0 : QS × (Nat → Int32)), r_55 = .inl r_55_0 → ∀ (H : Heap) (locs : List Loc) (ls : Array Slot), va_P (gD g) vwCl (OB g h_p1 al_h_p1 r_55_0.1 ++ [aI g h_p2 n_p2 r_55_0.2]) H → va_D A (OB g h_p1 al_h_p1 r_55_0.1 ++ [aI g h_p2 n_p2 r_55_0.2]) → va_S A s.heap H locs → lv_has ls 13 [] → W p l e (rmv 3 66) s m args below meth c H locs 0 0 Q (F0 m 175 ls []) := by
        intro r_55_0 hr H locs ls hP hD hS hl
        have hM := ex2_0 hM hr
        refine lv_iconst (v := (nI 0)) hx hb dL_builds_175 (by decide) ?_
        have hz : bq (nI 0) = true := by decide
        obtain rfl := Option.some.inj hM
        exact hfin 176 _ _ _ dL_builds_176 hz hP hD hS
      have hE_55_1 : ∀ (r_55_1 : QS × (Nat → Int32)), r_55 = .inr r_55_1 → ∀ (H : Heap) (locs : List Loc) (ls : Array Slot), va_P (gD g) vwCl (OB g h_p1 al_h_p1 r_55_1.1 ++ [aI g h_p2 n_p2 r_55_1.2]) H → va_D A (OB g h_p1 al_h_p1 r_55_1.1 ++ [aI g h_p2 n_p2 r_55_1.2]) → va_S A s.heap H locs → lv_has ls 13 [] → W p l e (rmv 3 66) s m args below meth c H locs 0 0 Q (F0 m 183 ls []) := by
        intro r_55_1 hr H locs ls hP hD hS hl
        have hM := ex2_1 hM hr
        refine lv_iconst (v := (nI 1)) hx hb dL_builds_183 (by decide) ?_
        have hz : bq (nI 1) = true := by decide
        obtain rfl := Option.some.inj hM
        exact hfin 184 _ _ _ dL_builds_184 hz hP hD hS
      clear hM
      have hL_55 : ∀ (n : Nat) (z_55 : Int32 × QS × (Nat → Int32)), it (b_L_builds_55 Lx xs p4 p5 n_p2 j_31) n z_55 = some r_55 → ∀ (H : Heap) (locs : List Loc) (ls : Array Slot), va_P (gD g) vwCl (OB g h_p1 al_h_p1 z_55.2.1 ++ [aI g h_p2 n_p2 z_55.2.2]) H → va_D A (OB g h_p1 al_h_p1 z_55.2.1 ++ [aI g h_p2 n_p2 z_55.2.2]) → va_S A s.heap H locs → lv_has ls 13 [(8, .int z_55.1), (7, .int j_31), (0, .ref h_p1), (1, .ref h_p2), (2, .ref h_p3), (3, .int p4), (4, .int p5)] → W p l e (rmv 3 66) s m args below meth c H locs 0 0 Q (F0 m 55 ls []) := by
        intro n
        induction n with
        | zero => intro z_55 hn; exact (it_zero hn).elim
        | succ n ih =>
          intro z_55 hn H locs ls hP hD hS hl
          obtain ⟨x, hM, hX⟩ := it_succ hn
          clear hn
          refine lv_iload hx hb dL_builds_55 (lv_at hl 0 rfl) ?_
          refine lv_iload hx hb dL_builds_57 (lv_at hl 1 rfl) ?_
          refine lv_icmp_ge (tgt := 183) hx hb dL_builds_59 (by decide) (fun c_59 => ?_) (fun c_59 => ?_)
          · have hM := if_t hM c_59
            obtain rfl := Option.some.inj hM
            obtain rfl : _ = r_55 := hX
            exact hE_55_1 _ rfl _ _ _ hP hD hS (lv_sub hl [] rfl)
          · have hM := if_f hM c_59
            refine lv_aload_n hx hb dL_builds_62 rfl (lv_at hl 4 rfl) ?_
            refine lv_iload_n hx hb dL_builds_63 rfl (lv_at hl 5 rfl) ?_
            refine lv_iconst (v := (nI 1)) hx hb dL_builds_64 (by decide) ?_
            refine lv_iadd hx hb dL_builds_65 ?_
            refine lv_iload hx hb dL_builds_66 (lv_at hl 0 rfl) ?_
            refine lv_iadd hx hb dL_builds_68 ?_
            obtain ⟨q_69, hc_69, hM⟩ := bd_some hM
            refine w_callX cx hP hD hS hA hXs hbl hbA (c_L_cell g l h_p3 Lx xs ((p4 + (nI 1)) + z_55.1) hc_69) [] rfl (by decide) rfl (OB g h_p1 al_h_p1 z_55.2.1 ++ [aI g h_p2 n_p2 z_55.2.2]) rfl yq_L_cell m_332 m_333 m_16 m_334 ⟨Nat.le_of_ble_eq_true rfl, Nat.le_of_ble_eq_true rfl⟩ rfl rfl hl.1 (Nat.le_of_ble_eq_true rfl) dL_builds_69 ⟨Nat.le_refl 0, Nat.le_refl 0⟩ rfl (fun H locs hP hD hS => ?_)
            refine lv_istore (lv' := [(9, .int q_69), (8, .int z_55.1), (7, .int j_31), (0, .ref h_p1), (1, .ref h_p2), (2, .ref h_p3), (3, .int p4), (4, .int p5)]) hx hb dL_builds_72 hl (by decide) rfl (fun ls hl => ?_)
            refine lv_iload hx hb dL_builds_74 (lv_at hl 0 rfl) ?_
            refine lv_iload hx hb dL_builds_76 (lv_at hl 7 rfl) ?_
            obtain ⟨q_78, hc_78, hM⟩ := bd_some hM
            refine w_callS cx hP hD hS hA (c_L_part g l q_69 p5 hc_78) [] rfl (by decide) rfl (OB g h_p1 al_h_p1 z_55.2.1 ++ [aI g h_p2 n_p2 z_55.2.2]) rfl yq_L_part m_328 m_329 m_16 m_330 ⟨Nat.le_of_ble_eq_true rfl, Nat.le_of_ble_eq_true rfl⟩ rfl rfl hl.1 (Nat.le_of_ble_eq_true rfl) dL_builds_78 ⟨Nat.le_refl 0, Nat.le_refl 0⟩ rfl (fun H locs hP hD hS => ?_)
            refine lv_istore (lv' := [(10, .int q_78), (9, .int q_69), (8, .int z_55.1), (7, .int j_31), (0, .ref h_p1), (1, .ref h_p2), (2, .ref h_p3), (3, .int p4), (4, .int p5)]) hx hb dL_builds_81 hl (by decide) rfl (fun ls hl => ?_)
            refine lv_iload hx hb dL_builds_83 (lv_at hl 0 rfl) ?_
            refine lv_iconst (v := (nI 1)) hx hb dL_builds_85 (by decide) ?_
            refine lv_iadd hx hb dL_builds_86 ?_
            refine lv_iload hx hb dL_builds_87 (lv_at hl 1 rfl) ?_
            refine lv_iconst (v := (nI 4)) hx hb dL_builds_89 (by decide) ?_
            refine lv_ishr hx hb dL_builds_90 ?_
            refine lv_iload hx hb dL_builds_91 (lv_at hl 8 rfl) ?_
            refine lv_iconst (v := (nI 1)) hx hb dL_builds_93 (by decide) ?_
            refine lv_isub hx hb dL_builds_94 ?_
            obtain ⟨q_95, hc_95, hM⟩ := bd_some hM
            refine w_callS cx hP hD hS hA (c_L_part g l (q_69 >>> ((nI 4) &&& 31)) (p5 - (nI 1)) hc_95) [] rfl (by decide) rfl (OB g h_p1 al_h_p1 z_55.2.1 ++ [aI g h_p2 n_p2 z_55.2.2]) rfl yq_L_part m_328 m_329 m_16 m_330 ⟨Nat.le_of_ble_eq_true rfl, Nat.le_of_ble_eq_true rfl⟩ rfl rfl hl.1 (Nat.le_of_ble_eq_true rfl) dL_builds_95 ⟨Nat.le_refl 0, Nat.le_refl 0⟩ rfl (fun H locs hP hD hS => ?_)
            refine lv_iadd hx hb dL_builds_98 ?_
            refine lv_iload hx hb dL_builds_99 (lv_at hl 8 rfl) ?_
            obtain ⟨g_101, hM⟩ := gd_some hM
            refine lv_irem hx hb dL_builds_101 (nz_ne g_101) ?_
            refine lv_topi (fun x_102 ex_102 => ?_)
            have hM := nm_some hM x_102 ex_102
            refine lv_istore (lv' := [(11, .int x_102), (10, .int q_78), (9, .int q_69), (8, .int z_55.1), (7, .int j_31), (0, .ref h_p1), (1, .ref h_p2), (2, .ref h_p3), (3, .int p4), (4, .int p5)]) hx hb dL_builds_102 hl (by decide) rfl (fun ls hl => ?_)
            refine lv_iload hx hb dL_builds_104 (lv_at hl 2 rfl) ?_
            refine lv_bipush (v := (nI 9)) hx hb dL_builds_106 (by decide) ?_
            refine lv_ishr hx hb dL_builds_108 ?_
            refine lv_iconst (v := (nI 3)) hx hb dL_builds_109 (by decide) ?_
            obtain ⟨q_110, hc_110, hM⟩ := bd_some hM
            refine w_callS cx hP hD hS hA (c_L_part g l (q_69 >>> ((nI 9) &&& 31)) (nI 3) hc_110) [] rfl (by decide) rfl (OB g h_p1 al_h_p1 z_55.2.1 ++ [aI g h_p2 n_p2 z_55.2.2]) rfl yq_L_part m_328 m_329 m_16 m_330 ⟨Nat.le_of_ble_eq_true rfl, Nat.le_of_ble_eq_true rfl⟩ rfl rfl hl.1 (Nat.le_of_ble_eq_true rfl) dL_builds_110 ⟨Nat.le_refl 0, Nat.le_refl 0⟩ rfl (fun H locs hP hD hS => ?_)
            obtain ⟨j_113, hB, hM⟩ := bd_some hM
            have hJ_113 : ∀ (H : Heap) (locs : List Loc) (ls : Array Slot), va_P (gD g) vwCl (OB g h_p1 al_h_p1 z_55.2.1 ++ [aI g h_p2 n_p2 z_55.2.2]) H → va_D A (OB g h_p1 al_h_p1 z_55.2.1 ++ [aI g h_p2 n_p2 z_55.2.2]) → va_S A s.heap H locs → lv_has ls 13 [(11, .int x_102), (10, .int q_78), (8, .int z_55.1), (7, .int j_31), (0, .ref h_p1), (1, .ref h_p2), (2, .ref h_p3), (3, .int p4), (4, .int p5)] → W p l e (rmv 3 66) s m args below meth c H locs 0 0 Q (F0 m 121 ls [.int j_113]) := by
              intro H locs ls hP hD hS hl
              refine lv_istore (lv' := [(12, .int j_113), (11, .int x_102), (10, .int q_78), (8, .int z_55.1), (7, .int j_31), (0, .ref h_p1), (1, .ref h_p2), (2, .ref h_p3), (3, .int p4), (4, .int p5)]) hx hb dL_builds_121 hl (by decide) rfl (fun ls hl => ?_)
              refine lv_aload_n hx hb dL_builds_123 rfl (lv_at hl 6 rfl) ?_
              refine lv_iconst (v := (nI 2)) hx hb dL_builds_124 (by decide) ?_
              refine lv_iconst (v := (nI 3)) hx hb dL_builds_125 (by decide) ?_
              refine lv_iload hx hb dL_builds_126 (lv_at hl 3 rfl) ?_
              refine lv_imul hx hb dL_builds_128 ?_
              refine lv_iadd hx hb dL_builds_129 ?_
              refine lv_iload hx hb dL_builds_130 (lv_at hl 2 rfl) ?_
              obtain ⟨g_132, hM⟩ := gd_some hM
              refine w_iast cx hP hD hS (127 + 0) (ob_at rfl) g_132 dL_builds_132 (OB g h_p1 al_h_p1 z_55.2.1 ++ [aI g h_p2 n_p2 (upd z_55.2.2 ((nI 2) + ((nI 3) * z_55.1)).toNatClampNeg q_78)]) ob_set (fun H locs hP hD hS => ?_)
              refine lv_aload_n hx hb dL_builds_133 rfl (lv_at hl 6 rfl) ?_
              refine lv_iconst (v := (nI 3)) hx hb dL_builds_134 (by decide) ?_
              refine lv_iconst (v := (nI 3)) hx hb dL_builds_135 (by decide) ?_
              refine lv_iload hx hb dL_builds_136 (lv_at hl 3 rfl) ?_
              refine lv_imul hx hb dL_builds_138 ?_
              refine lv_iadd hx hb dL_builds_139 ?_
              refine lv_iload hx hb dL_builds_140 (lv_at hl 1 rfl) ?_
              obtain ⟨g_142, hM⟩ := gd_some hM
              refine w_iast cx hP hD hS (127 + 0) (ob_at rfl) g_142 dL_builds_142 (OB g h_p1 al_h_p1 z_55.2.1 ++ [aI g h_p2 n_p2 (upd (upd z_55.2.2 ((nI 2) + ((nI 3) * z_55.1)).toNatClampNeg q_78) ((nI 3) + ((nI 3) * z_55.1)).toNatClampNeg x_102)]) ob_set (fun H locs hP hD hS => ?_)
              refine lv_aload_n hx hb dL_builds_143 rfl (lv_at hl 6 rfl) ?_
              refine lv_iconst (v := (nI 4)) hx hb dL_builds_144 (by decide) ?_
              refine lv_iconst (v := (nI 3)) hx hb dL_builds_145 (by decide) ?_
              refine lv_iload hx hb dL_builds_146 (lv_at hl 3 rfl) ?_
              refine lv_imul hx hb dL_builds_148 ?_
              refine lv_iadd hx hb dL_builds_149 ?_
              refine lv_iload hx hb dL_builds_150 (lv_at hl 0 rfl) ?_
              obtain ⟨g_152, hM⟩ := gd_some hM
              refine w_iast cx hP hD hS (127 + 0) (ob_at rfl) g_152 dL_builds_152 (OB g h_p1 al_h_p1 z_55.2.1 ++ [aI g h_p2 n_p2 (upd (upd (upd z_55.2.2 ((nI 2) + ((nI 3) * z_55.1)).toNatClampNeg q_78) ((nI 3) + ((nI 3) * z_55.1)).toNatClampNeg x_102) ((nI 4) + ((nI 3) * z_55.1)).toNatClampNeg j_113)]) ob_set (fun H locs hP hD hS => ?_)
              refine lv_aload_n hx hb dL_builds_153 rfl (lv_at hl 6 rfl) ?_
              refine lv_iconst (v := (nI 1)) hx hb dL_builds_154 (by decide) ?_
              refine lv_dup2_11 hx hb dL_builds_155 rfl rfl ?_
              obtain ⟨g_156, hM⟩ := gd_some hM
              refine w_iald cx hP (127 + 0) (ob_at rfl) g_156 dL_builds_156 ?_
              refine lv_iconst (v := (nI 1)) hx hb dL_builds_157 (by decide) ?_
              refine lv_iadd hx hb dL_builds_158 ?_
              obtain ⟨g_159, hM⟩ := gd_some hM
              refine w_iast cx hP hD hS (127 + 0) (ob_at rfl) g_159 dL_builds_159 (OB g h_p1 al_h_p1 z_55.2.1 ++ [aI g h_p2 n_p2 (upd (upd (upd (upd z_55.2.2 ((nI 2) + ((nI 3) * z_55.1)).toNatClampNeg q_78) ((nI 3) + ((nI 3) * z_55.1)).toNatClampNeg x_102) ((nI 4) + ((nI 3) * z_55.1)).toNatClampNeg j_113) (nI 1).toNatClampNeg (((upd (upd (upd z_55.2.2 ((nI 2) + ((nI 3) * z_55.1)).toNatClampNeg q_78) ((nI 3) + ((nI 3) * z_55.1)).toNatClampNeg x_102) ((nI 4) + ((nI 3) * z_55.1)).toNatClampNeg j_113) (nI 1).toNatClampNeg) + (nI 1)))]) ob_set (fun H locs hP hD hS => ?_)
              refine lv_aload_n hx hb dL_builds_160 rfl (lv_at hl 5 rfl) ?_
              refine lv_iload hx hb dL_builds_161 (lv_at hl 2 rfl) ?_
              refine lv_iload hx hb dL_builds_163 (lv_at hl 1 rfl) ?_
              refine lv_iload hx hb dL_builds_165 (lv_at hl 0 rfl) ?_
              obtain ⟨q_167, hc_167, hM⟩ := bd_some hM
              refine w_callV cx hP hD hS hA (co_addEdge g l h_p1 al_h_p1 q_78 x_102 j_113 z_55.2.1 hc_167) (blk 0 127) pf_C ob_nd (obx_f rfl) (OB g h_p1 al_h_p1 q_167.2 ++ [aI g h_p2 n_p2 (upd (upd (upd (upd z_55.2.2 ((nI 2) + ((nI 3) * z_55.1)).toNatClampNeg q_78) ((nI 3) + ((nI 3) * z_55.1)).toNatClampNeg x_102) ((nI 4) + ((nI 3) * z_55.1)).toNatClampNeg j_113) (nI 1).toNatClampNeg (((upd (upd (upd z_55.2.2 ((nI 2) + ((nI 3) * z_55.1)).toNatClampNeg q_78) ((nI 3) + ((nI 3) * z_55.1)).toNatClampNeg x_102) ((nI 4) + ((nI 3) * z_55.1)).toNatClampNeg j_113) (nI 1).toNatClampNeg) + (nI 1)))]) pf_S 0 8 rfl rfl yq_X8_addEdge rfl m_231 m_232 m_233 m_17 m_234 ⟨Nat.le_of_ble_eq_true rfl, Nat.le_of_ble_eq_true rfl⟩ rfl rfl hl.1 (Nat.le_of_ble_eq_true rfl) dL_builds_167 ⟨Nat.le_refl 0, Nat.le_refl 0⟩ rfl (fun H locs hP hD hS => ?_)
              refine lv_iload hx hb dL_builds_170 (lv_at hl 3 rfl) ?_
              refine lv_icmp_eq (tgt := 177) hx hb dL_builds_172 (by decide) (fun c_172 => ?_) (fun c_172 => ?_)
              · have hM := if_t hM c_172
                refine lv_iinc (v := z_55.1 + (nI 1)) (lv' := [(8, .int (z_55.1 + (nI 1))), (12, .int j_113), (11, .int x_102), (10, .int q_78), (7, .int j_31), (0, .ref h_p1), (1, .ref h_p2), (2, .ref h_p3), (3, .int p4), (4, .int p5)]) hx hb dL_builds_177 hl (k := 3) rfl (congrArg (fun q => z_55.1 + q) (show Int32.ofInt (1) = (nI 1) by decide)) (by decide) rfl (fun ls hl => ?_)
                refine lv_goto (tgt := 55) hx hb dL_builds_180 (by decide) ?_
                obtain rfl := Option.some.inj hM
                exact ih _ hX _ _ _ hP hD hS (lv_sub hl [0, 4, 5, 6, 7, 8, 9] rfl)
              · have hM := if_f hM c_172
                obtain rfl := Option.some.inj hM
                obtain rfl : _ = r_55 := hX
                exact hE_55_0 _ rfl _ _ _ hP hD hS (lv_sub hl [] rfl)
            clear hM
            have hM := hB
            clear hB
            refine lv_if_ne (tgt := 120) hx hb dL_builds_113 (by decide) (fun c_113 => ?_) (fun c_113 => ?_)
            · have hM := if_f hM c_113
              refine lv_iconst (v := (nI 1)) hx hb dL_builds_120 (by decide) ?_
              obtain rfl := Option.some.inj hM
              exact hJ_113 _ _ _ hP hD hS (lv_sub hl [0, 1, 3, 4, 5, 6, 7, 8, 9] rfl)
            · have hM := if_t hM c_113
              refine lv_iconst (v := (nI 4294967295)) hx hb dL_builds_116 (by decide) ?_
              refine lv_goto (tgt := 121) hx hb dL_builds_117 (by decide) ?_
              obtain rfl := Option.some.inj hM
              exact hJ_113 _ _ _ hP hD hS (lv_sub hl [0, 1, 3, 4, 5, 6, 7, 8, 9] rfl)
      exact hL_55 n _ hn _ _ _ hP hD hS (lv_sub hl [0, 1, 2, 3, 4, 5, 6] rfl)
    clear hM
    have hM := hB
    clear hB
    refine lv_icmp_ne (tgt := 38) hx hb dL_builds_31 (by decide) (fun c_31 => ?_) (fun c_31 => ?_)
    · have hM := if_f hM c_31
      refine lv_aload_n hx hb dL_builds_38 rfl (lv_at hl 3 rfl) ?_
      refine lv_iload_n hx hb dL_builds_39 rfl (lv_at hl 4 rfl) ?_
      obtain ⟨q_40, hc_40, hM⟩ := bd_some hM
      refine w_callX cx hP hD hS hA hXs hbl hbA (c_L_cell g l h_p3 Lx xs p4 hc_40) [] rfl (by decide) rfl (OB g h_p1 al_h_p1 q_18.2 ++ [aI g h_p2 n_p2 (upd (upd a_p2 (nI 0).toNatClampNeg p5) (nI 1).toNatClampNeg (nI 0))]) rfl yq_L_cell m_332 m_333 m_16 m_334 ⟨Nat.le_of_ble_eq_true rfl, Nat.le_of_ble_eq_true rfl⟩ rfl rfl hl.1 (Nat.le_of_ble_eq_true rfl) dL_builds_40 ⟨Nat.le_refl 0, Nat.le_refl 0⟩ rfl (fun H locs hP hD hS => ?_)
      refine lv_iload hx hb dL_builds_43 (lv_at hl 6 rfl) ?_
      refine lv_iconst (v := (nI 1)) hx hb dL_builds_45 (by decide) ?_
      refine lv_iadd hx hb dL_builds_46 ?_
      obtain ⟨q_47, hc_47, hM⟩ := bd_some hM
      refine w_callS cx hP hD hS hA (c_L_part g l q_40 (p6 + (nI 1)) hc_47) [] rfl (by decide) rfl (OB g h_p1 al_h_p1 q_18.2 ++ [aI g h_p2 n_p2 (upd (upd a_p2 (nI 0).toNatClampNeg p5) (nI 1).toNatClampNeg (nI 0))]) rfl yq_L_part m_328 m_329 m_16 m_330 ⟨Nat.le_of_ble_eq_true rfl, Nat.le_of_ble_eq_true rfl⟩ rfl rfl hl.1 (Nat.le_of_ble_eq_true rfl) dL_builds_47 ⟨Nat.le_refl 0, Nat.le_refl 0⟩ rfl (fun H locs hP hD hS => ?_)
      obtain rfl := Option.some.inj hM
      exact hJ_31 _ _ _ hP hD hS (lv_sub hl [1, 2, 3, 4, 5] rfl)
    · have hM := if_t hM c_31
      refine lv_iconst (v := (nI 0)) hx hb dL_builds_34 (by decide) ?_
      refine lv_goto (tgt := 50) hx hb dL_builds_35 (by decide) ?_
      obtain rfl := Option.some.inj hM
      exact hJ_31 _ _ _ hP hD hS (lv_sub hl [1, 2, 3, 4, 5] rfl)
  · have hM := if_f hM c_23
    refine lv_iconst (v := (nI 0)) hx hb dL_builds_26 (by decide) ?_
    have hz : bq (nI 0) = true := by decide
    obtain rfl := Option.some.inj hM
    exact hfin 27 _ _ _ dL_builds_27 hz hP hD hS
noncomputable def t_L_refused_97 (w_4 : Int32) (w_3 : Int32) (w_1 : Int64) (wS_p1 : QS) : Option (Int32 × QS) :=
  bd (o_removeEdge w_4 wS_p1) (fun (q_100 : Int32 × QS) => if q_100.1 = (nI 4294967295) then bd (o_removeEdge (nI 4294967295) q_100.2) (fun (q_109 : Int32 × QS) => if q_109.1 = (nI 4294967295) then bd (o_flipSign w_4 q_109.2) (fun (q_119 : Int32 × QS) => if q_119.1 = 0 then bd (o_flipSign (nI 4294967295) q_119.2) (fun (q_127 : Int32 × QS) => if q_127.1 = 0 then bd (o_appendCharacter (nI 4294967295) q_127.2) (fun (q_135 : Int32 × QS) => if q_135.1 = (nI 4294967295) then bd (o_appendCharacter (nI 256) q_135.2) (fun (q_146 : Int32 × QS) => if q_146.1 = (nI 4294967295) then bd (o_headOf (nI 4294967295) q_146.2) (fun (q_157 : Int32 × QS) => if q_157.1 = (nI 4294967295) then bd (o_headOf ((nI 2) * w_4) q_157.2) (fun (q_169 : Int32 × QS) => if q_169.1 = (nI 4294967295) then bd (o_follows (nI 0) ((nI 2) * w_4) q_169.2) (fun (q_182 : Int32 × QS) => if q_182.1 = (nI 4294967295) then bd (o_follows (nI 4294967295) (nI 0) q_182.2) (fun (q_192 : Int32 × QS) => if q_192.1 = (nI 4294967295) then bd (o_degree (nI 4294967295) q_192.2) (fun (q_201 : Int32 × QS) => if q_201.1 = (nI 4294967295) then bd (o_degree w_3 q_201.2) (fun (q_210 : Int32 × QS) => if q_210.1 = (nI 4294967295) then bd (o_walks (nI 0) q_210.2) (fun (q_221 : Int64 × QS) => nm (lg_cmp q_221.1 (-9223372036854775808 : Int64)) (fun (y_227 : Int32) => if y_227 = 0 then bd (o_walks (nI 19) q_221.2) (fun (q_234 : Int64 × QS) => nm (lg_cmp q_234.1 (-9223372036854775808 : Int64)) (fun (y_240 : Int32) => if y_240 = 0 then bd (o_signedWalks (nI 0) q_234.2) (fun (q_246 : Int64 × QS) => nm (lg_cmp q_246.1 (-9223372036854775808 : Int64)) (fun (y_252 : Int32) => if y_252 = 0 then bd (o_coverWalks (nI 19) q_246.2) (fun (q_259 : Int64 × QS) => nm (lg_cmp q_259.1 (-9223372036854775808 : Int64)) (fun (y_265 : Int32) => if y_265 = 0 then bd (o_primes (nI 0) q_259.2) (fun (q_271 : Int64 × QS) => nm (lg_cmp q_271.1 (-9223372036854775808 : Int64)) (fun (y_277 : Int32) => if y_277 = 0 then bd (o_positivePrimes (nI 19) q_271.2) (fun (q_284 : Int64 × QS) => nm (lg_cmp q_284.1 (-9223372036854775808 : Int64)) (fun (y_290 : Int32) => if y_290 = 0 then bd (o_primeEdge (nI 0) (nI 0) (nI 0) q_284.2) (fun (q_300 : Int32 × QS) => if q_300.1 = (nI 4294967295) then bd (o_primeEdge (nI 6) (nI 0) (nI 0) q_300.2) (fun (q_312 : Int32 × QS) => if q_312.1 = (nI 4294967295) then bd (o_primeEdge (nI 3) (nI 0) (nI 3) q_312.2) (fun (q_323 : Int32 × QS) => if q_323.1 = (nI 4294967295) then bd (o_primeEdge (nI 3) (nI 0) (nI 4294967295) q_323.2) (fun (q_334 : Int32 × QS) => if q_334.1 = (nI 4294967295) then bd (o_primeEdge (nI 3) (nI 4294967295) (nI 0) q_334.2) (fun (q_345 : Int32 × QS) => if q_345.1 = (nI 4294967295) then bd (o_primeSign (nI 0) (nI 0) q_345.2) (fun (q_355 : Int32 × QS) => if q_355.1 = 0 then bd (o_primeSign (nI 6) (nI 0) q_355.2) (fun (q_365 : Int32 × QS) => if q_365.1 = 0 then bd (o_primeSign (nI 3) (nI 4294967295) q_365.2) (fun (q_374 : Int32 × QS) => if q_374.1 = 0 then bd (o_primeEdge (nI 1) (nI 0) (nI 0) q_374.2) (fun (q_384 : Int32 × QS) => if q_384.1 = (nI 4294967287) then bd (o_edgeCoefficient (nI 4294967295) q_384.2) (fun (q_396 : Int64 × QS) => nm (lg_cmp q_396.1 (-9223372036854775808 : Int64)) (fun (y_402 : Int32) => if y_402 = 0 then bd (o_edgeCoefficient (nI 19) q_396.2) (fun (q_409 : Int64 × QS) => nm (lg_cmp q_409.1 (-9223372036854775808 : Int64)) (fun (y_415 : Int32) => if y_415 = 0 then bd (o_signedCoefficient (nI 19) q_409.2) (fun (q_422 : Int64 × QS) => nm (lg_cmp q_422.1 (-9223372036854775808 : Int64)) (fun (y_428 : Int32) => if y_428 = 0 then bd (o_vertexCoefficient (nI 13) q_422.2) (fun (q_435 : Int64 × QS) => nm (lg_cmp q_435.1 (-9223372036854775808 : Int64)) (fun (y_441 : Int32) => if y_441 = 0 then bd (o_bassCoefficient (nI 4294967295) q_435.2) (fun (q_447 : Int64 × QS) => nm (lg_cmp q_447.1 (-9223372036854775808 : Int64)) (fun (y_453 : Int32) => if y_453 = 0 then bd (o_zetaCoefficient (nI 13) q_447.2) (fun (q_460 : Int64 × QS) => nm (lg_cmp q_460.1 (-9223372036854775808 : Int64)) (fun (y_466 : Int32) => if y_466 = 0 then bd (o_edgeValue (nI 3) q_460.2) (fun (q_472 : Int64 × QS) => nm (lg_cmp q_472.1 (-9223372036854775808 : Int64)) (fun (y_478 : Int32) => if y_478 = 0 then bd (o_edgeValue (nI 4294967293) q_472.2) (fun (q_485 : Int64 × QS) => nm (lg_cmp q_485.1 (-9223372036854775808 : Int64)) (fun (y_491 : Int32) => if y_491 = 0 then bd (o_taylorAtOne (nI 19) q_485.2) (fun (q_498 : Int64 × QS) => nm (lg_cmp q_498.1 (-9223372036854775808 : Int64)) (fun (y_504 : Int32) => if y_504 = 0 then bd (f_L_digest q_498.2) (fun (q_511 : Int64 × QS) => if (lg_cmp q_511.1 w_1) = 0 then some ((nI 1), q_511.2) else some ((nI 0), q_511.2)) else some ((nI 0), q_498.2))) else some ((nI 0), q_485.2))) else some ((nI 0), q_472.2))) else some ((nI 0), q_460.2))) else some ((nI 0), q_447.2))) else some ((nI 0), q_435.2))) else some ((nI 0), q_422.2))) else some ((nI 0), q_409.2))) else some ((nI 0), q_396.2))) else some ((nI 0), q_384.2)) else some ((nI 0), q_374.2)) else some ((nI 0), q_365.2)) else some ((nI 0), q_355.2)) else some ((nI 0), q_345.2)) else some ((nI 0), q_334.2)) else some ((nI 0), q_323.2)) else some ((nI 0), q_312.2)) else some ((nI 0), q_300.2)) else some ((nI 0), q_284.2))) else some ((nI 0), q_271.2))) else some ((nI 0), q_259.2))) else some ((nI 0), q_246.2))) else some ((nI 0), q_234.2))) else some ((nI 0), q_221.2))) else some ((nI 0), q_210.2)) else some ((nI 0), q_201.2)) else some ((nI 0), q_192.2)) else some ((nI 0), q_182.2)) else some ((nI 0), q_169.2)) else some ((nI 0), q_157.2)) else some ((nI 0), q_146.2)) else some ((nI 0), q_135.2)) else some ((nI 0), q_127.2)) else some ((nI 0), q_119.2)) else some ((nI 0), q_109.2)) else some ((nI 0), q_100.2))
noncomputable def f_L_refused (S_p1 : QS) : Option (Int32 × QS) :=
  bd (f_L_digest S_p1) (fun (q_1 : Int64 × QS) => bd (o_vertexCount q_1.2) (fun (q_6 : Int32 × QS) => bd (o_edgeCount q_6.2) (fun (q_11 : Int32 × QS) => bd (o_configure (nI 0) q_11.2) (fun (q_18 : Int32 × QS) => if q_18.1 = (nI 4294967295) then bd (o_configure (nI 7) q_18.2) (fun (q_28 : Int32 × QS) => if q_28.1 = (nI 4294967295) then bd (o_addEdge (nI 4294967295) (nI 0) (nI 1) q_28.2) (fun (q_39 : Int32 × QS) => if q_39.1 = (nI 4294967295) then bd (o_addEdge (nI 0) q_6.1 (nI 1) q_39.2) (fun (q_50 : Int32 × QS) => if q_50.1 = (nI 4294967295) then bd (o_addEdge (nI 0) (nI 0) (nI 1) q_50.2) (fun (q_61 : Int32 × QS) => if q_61.1 = (nI 4294967295) then if q_6.1 ≤ (nI 1) then t_L_refused_97 q_11.1 q_6.1 q_1.1 q_61.2 else bd (o_addEdge (nI 0) (nI 1) (nI 0) q_61.2) (fun (q_77 : Int32 × QS) => if q_77.1 = (nI 4294967295) then bd (o_addEdge (nI 1) (nI 0) (nI 2) q_77.2) (fun (q_88 : Int32 × QS) => if q_88.1 = (nI 4294967295) then t_L_refused_97 q_11.1 q_6.1 q_1.1 q_88.2 else some ((nI 0), q_88.2)) else some ((nI 0), q_77.2)) else some ((nI 0), q_61.2)) else some ((nI 0), q_50.2)) else some ((nI 0), q_39.2)) else some ((nI 0), q_28.2)) else some ((nI 0), q_18.2)))))
theorem yq_L_refused : yq yL_refused 1 := by unfold yq; decide +kernel
set_option maxHeartbeats 4000000 in
set_option maxRecDepth 100000 in
theorem c_L_refused (g : GG) (l : Launch) (h_p1 : Nat) (al_h_p1 : Nat → Nat) (S_p1 : QS) {R : Int32 × QS} (hM : f_L_refused S_p1 = some R) : CT g l yL_refused cL_refused 5 (some .boolean) 13 328 [.ref h_p1] (OB g h_p1 al_h_p1 S_p1 ++ []) (OB g h_p1 al_h_p1 R.2 ++ []) (some (.int R.1)) := by
  refine ct_z (by decide +kernel) (Nat.le_of_ble_eq_true rfl) ?_
  intro p e s m args below meth c Q A ls cx hP hD hA hl hfin
  obtain ⟨hx, hb, hml, hown, hts, hK⟩ := id cx
  have hl : lv_has ls 5 [(0, .ref h_p1)] := hl
  have hT_97 : ∀ (w_4 : Int32) (w_3 : Int32) (w_1 : Int64) (wS_p1 : QS) (hM : t_L_refused_97 w_4 w_3 w_1 wS_p1 = some R), ∀ (H : Heap) (locs : List Loc) (ls : Array Slot), va_P (gD g) vwCl (OB g h_p1 al_h_p1 wS_p1 ++ []) H → va_D A (OB g h_p1 al_h_p1 wS_p1 ++ []) → va_S A s.heap H locs → lv_has ls 5 [(4, .int w_4), (3, .int w_3), (1, .long w_1), (0, .ref h_p1)] → W p l e (rmv 13 328) s m args below meth c H locs 0 0 Q (F0 m 97 ls []) := by
    intro w_4 w_3 w_1 wS_p1 hM H locs ls hP hD hS hl
    refine lv_aload_n hx hb dL_refused_97 rfl (lv_at hl 3 rfl) ?_
    refine lv_iload hx hb dL_refused_98 (lv_at hl 0 rfl) ?_
    obtain ⟨q_100, hc_100, hM⟩ := bd_some hM
    refine w_callV cx hP hD hS hA (co_removeEdge g l h_p1 al_h_p1 w_4 wS_p1 hc_100) (blk 0 127) pf_C ob_nd (obx_f rfl) (OB g h_p1 al_h_p1 q_100.2 ++ []) pf_S 0 8 rfl rfl yq_X8_removeEdge rfl m_260 m_261 m_262 m_17 m_263 ⟨Nat.le_of_ble_eq_true rfl, Nat.le_of_ble_eq_true rfl⟩ rfl rfl hl.1 (Nat.le_of_ble_eq_true rfl) dL_refused_100 ⟨Nat.le_refl 0, Nat.le_refl 0⟩ rfl (fun H locs hP hD hS => ?_)
    refine lv_iconst (v := (nI 4294967295)) hx hb dL_refused_103 (by decide) ?_
    refine lv_icmp_ne (tgt := 153) hx hb dL_refused_104 (by decide) (fun c_104 => ?_) (fun c_104 => ?_)
    · have hM := if_f hM c_104
      refine lv_iconst (v := (nI 0)) hx hb dL_refused_153 (by decide) ?_
      have hz : bq (nI 0) = true := by decide
      obtain rfl := Option.some.inj hM
      exact hfin 154 _ _ _ dL_refused_154 hz hP hD hS
    · have hM := if_t hM c_104
      refine lv_aload_n hx hb dL_refused_107 rfl (lv_at hl 3 rfl) ?_
      refine lv_iconst (v := (nI 4294967295)) hx hb dL_refused_108 (by decide) ?_
      obtain ⟨q_109, hc_109, hM⟩ := bd_some hM
      refine w_callV cx hP hD hS hA (co_removeEdge g l h_p1 al_h_p1 (nI 4294967295) q_100.2 hc_109) (blk 0 127) pf_C ob_nd (obx_f rfl) (OB g h_p1 al_h_p1 q_109.2 ++ []) pf_S 0 8 rfl rfl yq_X8_removeEdge rfl m_260 m_261 m_262 m_17 m_263 ⟨Nat.le_of_ble_eq_true rfl, Nat.le_of_ble_eq_true rfl⟩ rfl rfl hl.1 (Nat.le_of_ble_eq_true rfl) dL_refused_109 ⟨Nat.le_refl 0, Nat.le_refl 0⟩ rfl (fun H locs hP hD hS => ?_)
      refine lv_iconst (v := (nI 4294967295)) hx hb dL_refused_112 (by decide) ?_
      refine lv_icmp_ne (tgt := 153) hx hb dL_refused_113 (by decide) (fun c_113 => ?_) (fun c_113 => ?_)
      · have hM := if_f hM c_113
        refine lv_iconst (v := (nI 0)) hx hb dL_refused_153 (by decide) ?_
        have hz : bq (nI 0) = true := by decide
        obtain rfl := Option.some.inj hM
        exact hfin 154 _ _ _ dL_refused_154 hz hP hD hS
      · have hM := if_t hM c_113
        refine lv_aload_n hx hb dL_refused_116 rfl (lv_at hl 3 rfl) ?_
        refine lv_iload hx hb dL_refused_117 (lv_at hl 0 rfl) ?_
        obtain ⟨q_119, hc_119, hM⟩ := bd_some hM
        refine w_callV cx hP hD hS hA (co_flipSign g l h_p1 al_h_p1 w_4 q_109.2 hc_119) (blk 0 127) pf_C ob_nd (obx_f rfl) (OB g h_p1 al_h_p1 q_119.2 ++ []) pf_S 0 8 rfl rfl yq_X8_flipSign rfl m_272 m_273 m_274 m_17 m_275 ⟨Nat.le_of_ble_eq_true rfl, Nat.le_of_ble_eq_true rfl⟩ rfl rfl hl.1 (Nat.le_of_ble_eq_true rfl) dL_refused_119 ⟨Nat.le_refl 0, Nat.le_refl 0⟩ rfl (fun H locs hP hD hS => ?_)
        refine lv_if_ne (tgt := 153) hx hb dL_refused_122 (by decide) (fun c_122 => ?_) (fun c_122 => ?_)
        · have hM := if_f hM c_122
          refine lv_iconst (v := (nI 0)) hx hb dL_refused_153 (by decide) ?_
          have hz : bq (nI 0) = true := by decide
          obtain rfl := Option.some.inj hM
          exact hfin 154 _ _ _ dL_refused_154 hz hP hD hS
        · have hM := if_t hM c_122
          refine lv_aload_n hx hb dL_refused_125 rfl (lv_at hl 3 rfl) ?_
          refine lv_iconst (v := (nI 4294967295)) hx hb dL_refused_126 (by decide) ?_
          obtain ⟨q_127, hc_127, hM⟩ := bd_some hM
          refine w_callV cx hP hD hS hA (co_flipSign g l h_p1 al_h_p1 (nI 4294967295) q_119.2 hc_127) (blk 0 127) pf_C ob_nd (obx_f rfl) (OB g h_p1 al_h_p1 q_127.2 ++ []) pf_S 0 8 rfl rfl yq_X8_flipSign rfl m_272 m_273 m_274 m_17 m_275 ⟨Nat.le_of_ble_eq_true rfl, Nat.le_of_ble_eq_true rfl⟩ rfl rfl hl.1 (Nat.le_of_ble_eq_true rfl) dL_refused_127 ⟨Nat.le_refl 0, Nat.le_refl 0⟩ rfl (fun H locs hP hD hS => ?_)
          refine lv_if_ne (tgt := 153) hx hb dL_refused_130 (by decide) (fun c_130 => ?_) (fun c_130 => ?_)
          · have hM := if_f hM c_130
            refine lv_iconst (v := (nI 0)) hx hb dL_refused_153 (by decide) ?_
            have hz : bq (nI 0) = true := by decide
            obtain rfl := Option.some.inj hM
            exact hfin 154 _ _ _ dL_refused_154 hz hP hD hS
          · have hM := if_t hM c_130
            refine lv_aload_n hx hb dL_refused_133 rfl (lv_at hl 3 rfl) ?_
            refine lv_iconst (v := (nI 4294967295)) hx hb dL_refused_134 (by decide) ?_
            obtain ⟨q_135, hc_135, hM⟩ := bd_some hM
            refine w_callV cx hP hD hS hA (co_appendCharacter g l h_p1 al_h_p1 (nI 4294967295) q_127.2 hc_135) (blk 0 127) pf_C ob_nd (obx_f rfl) (OB g h_p1 al_h_p1 q_135.2 ++ []) pf_S 0 8 rfl rfl yq_X8_appendCharacter rfl m_419 m_420 m_421 m_17 m_422 ⟨Nat.le_of_ble_eq_true rfl, Nat.le_of_ble_eq_true rfl⟩ rfl rfl hl.1 (Nat.le_of_ble_eq_true rfl) dL_refused_135 ⟨Nat.le_refl 0, Nat.le_refl 0⟩ rfl (fun H locs hP hD hS => ?_)
            refine lv_iconst (v := (nI 4294967295)) hx hb dL_refused_138 (by decide) ?_
            refine lv_icmp_ne (tgt := 153) hx hb dL_refused_139 (by decide) (fun c_139 => ?_) (fun c_139 => ?_)
            · have hM := if_f hM c_139
              refine lv_iconst (v := (nI 0)) hx hb dL_refused_153 (by decide) ?_
              have hz : bq (nI 0) = true := by decide
              obtain rfl := Option.some.inj hM
              exact hfin 154 _ _ _ dL_refused_154 hz hP hD hS
            · have hM := if_t hM c_139
              refine lv_aload_n hx hb dL_refused_142 rfl (lv_at hl 3 rfl) ?_
              refine lv_sipush (v := (nI 256)) hx hb dL_refused_143 (by decide) ?_
              obtain ⟨q_146, hc_146, hM⟩ := bd_some hM
              refine w_callV cx hP hD hS hA (co_appendCharacter g l h_p1 al_h_p1 (nI 256) q_135.2 hc_146) (blk 0 127) pf_C ob_nd (obx_f rfl) (OB g h_p1 al_h_p1 q_146.2 ++ []) pf_S 0 8 rfl rfl yq_X8_appendCharacter rfl m_419 m_420 m_421 m_17 m_422 ⟨Nat.le_of_ble_eq_true rfl, Nat.le_of_ble_eq_true rfl⟩ rfl rfl hl.1 (Nat.le_of_ble_eq_true rfl) dL_refused_146 ⟨Nat.le_refl 0, Nat.le_refl 0⟩ rfl (fun H locs hP hD hS => ?_)
              refine lv_iconst (v := (nI 4294967295)) hx hb dL_refused_149 (by decide) ?_
              refine lv_icmp_eq (tgt := 155) hx hb dL_refused_150 (by decide) (fun c_150 => ?_) (fun c_150 => ?_)
              · have hM := if_t hM c_150
                refine lv_aload_n hx hb dL_refused_155 rfl (lv_at hl 3 rfl) ?_
                refine lv_iconst (v := (nI 4294967295)) hx hb dL_refused_156 (by decide) ?_
                obtain ⟨q_157, hc_157, hM⟩ := bd_some hM
                refine w_callV cx hP hD hS hA (co_headOf g l h_p1 al_h_p1 (nI 4294967295) q_146.2 hc_157) (blk 0 127) pf_C ob_nd (obx_f rfl) (OB g h_p1 al_h_p1 q_157.2 ++ []) pf_S 0 8 rfl rfl yq_X8_headOf rfl m_347 m_348 m_349 m_17 m_350 ⟨Nat.le_of_ble_eq_true rfl, Nat.le_of_ble_eq_true rfl⟩ rfl rfl hl.1 (Nat.le_of_ble_eq_true rfl) dL_refused_157 ⟨Nat.le_refl 0, Nat.le_refl 0⟩ rfl (fun H locs hP hD hS => ?_)
                refine lv_iconst (v := (nI 4294967295)) hx hb dL_refused_160 (by decide) ?_
                refine lv_icmp_ne (tgt := 217) hx hb dL_refused_161 (by decide) (fun c_161 => ?_) (fun c_161 => ?_)
                · have hM := if_f hM c_161
                  refine lv_iconst (v := (nI 0)) hx hb dL_refused_217 (by decide) ?_
                  have hz : bq (nI 0) = true := by decide
                  obtain rfl := Option.some.inj hM
                  exact hfin 218 _ _ _ dL_refused_218 hz hP hD hS
                · have hM := if_t hM c_161
                  refine lv_aload_n hx hb dL_refused_164 rfl (lv_at hl 3 rfl) ?_
                  refine lv_iconst (v := (nI 2)) hx hb dL_refused_165 (by decide) ?_
                  refine lv_iload hx hb dL_refused_166 (lv_at hl 0 rfl) ?_
                  refine lv_imul hx hb dL_refused_168 ?_
                  obtain ⟨q_169, hc_169, hM⟩ := bd_some hM
                  refine w_callV cx hP hD hS hA (co_headOf g l h_p1 al_h_p1 ((nI 2) * w_4) q_157.2 hc_169) (blk 0 127) pf_C ob_nd (obx_f rfl) (OB g h_p1 al_h_p1 q_169.2 ++ []) pf_S 0 8 rfl rfl yq_X8_headOf rfl m_347 m_348 m_349 m_17 m_350 ⟨Nat.le_of_ble_eq_true rfl, Nat.le_of_ble_eq_true rfl⟩ rfl rfl hl.1 (Nat.le_of_ble_eq_true rfl) dL_refused_169 ⟨Nat.le_refl 0, Nat.le_refl 0⟩ rfl (fun H locs hP hD hS => ?_)
                  refine lv_iconst (v := (nI 4294967295)) hx hb dL_refused_172 (by decide) ?_
                  refine lv_icmp_ne (tgt := 217) hx hb dL_refused_173 (by decide) (fun c_173 => ?_) (fun c_173 => ?_)
                  · have hM := if_f hM c_173
                    refine lv_iconst (v := (nI 0)) hx hb dL_refused_217 (by decide) ?_
                    have hz : bq (nI 0) = true := by decide
                    obtain rfl := Option.some.inj hM
                    exact hfin 218 _ _ _ dL_refused_218 hz hP hD hS
                  · have hM := if_t hM c_173
                    refine lv_aload_n hx hb dL_refused_176 rfl (lv_at hl 3 rfl) ?_
                    refine lv_iconst (v := (nI 0)) hx hb dL_refused_177 (by decide) ?_
                    refine lv_iconst (v := (nI 2)) hx hb dL_refused_178 (by decide) ?_
                    refine lv_iload hx hb dL_refused_179 (lv_at hl 0 rfl) ?_
                    refine lv_imul hx hb dL_refused_181 ?_
                    obtain ⟨q_182, hc_182, hM⟩ := bd_some hM
                    refine w_callV cx hP hD hS hA (co_follows g l h_p1 al_h_p1 (nI 0) ((nI 2) * w_4) q_169.2 hc_182) (blk 0 127) pf_C ob_nd (obx_f rfl) (OB g h_p1 al_h_p1 q_182.2 ++ []) pf_S 0 8 rfl rfl yq_X8_follows rfl m_427 m_428 m_429 m_17 m_430 ⟨Nat.le_of_ble_eq_true rfl, Nat.le_of_ble_eq_true rfl⟩ rfl rfl hl.1 (Nat.le_of_ble_eq_true rfl) dL_refused_182 ⟨Nat.le_refl 0, Nat.le_refl 0⟩ rfl (fun H locs hP hD hS => ?_)
                    refine lv_iconst (v := (nI 4294967295)) hx hb dL_refused_185 (by decide) ?_
                    refine lv_icmp_ne (tgt := 217) hx hb dL_refused_186 (by decide) (fun c_186 => ?_) (fun c_186 => ?_)
                    · have hM := if_f hM c_186
                      refine lv_iconst (v := (nI 0)) hx hb dL_refused_217 (by decide) ?_
                      have hz : bq (nI 0) = true := by decide
                      obtain rfl := Option.some.inj hM
                      exact hfin 218 _ _ _ dL_refused_218 hz hP hD hS
                    · have hM := if_t hM c_186
                      refine lv_aload_n hx hb dL_refused_189 rfl (lv_at hl 3 rfl) ?_
                      refine lv_iconst (v := (nI 4294967295)) hx hb dL_refused_190 (by decide) ?_
                      refine lv_iconst (v := (nI 0)) hx hb dL_refused_191 (by decide) ?_
                      obtain ⟨q_192, hc_192, hM⟩ := bd_some hM
                      refine w_callV cx hP hD hS hA (co_follows g l h_p1 al_h_p1 (nI 4294967295) (nI 0) q_182.2 hc_192) (blk 0 127) pf_C ob_nd (obx_f rfl) (OB g h_p1 al_h_p1 q_192.2 ++ []) pf_S 0 8 rfl rfl yq_X8_follows rfl m_427 m_428 m_429 m_17 m_430 ⟨Nat.le_of_ble_eq_true rfl, Nat.le_of_ble_eq_true rfl⟩ rfl rfl hl.1 (Nat.le_of_ble_eq_true rfl) dL_refused_192 ⟨Nat.le_refl 0, Nat.le_refl 0⟩ rfl (fun H locs hP hD hS => ?_)
                      refine lv_iconst (v := (nI 4294967295)) hx hb dL_refused_195 (by decide) ?_
                      refine lv_icmp_ne (tgt := 217) hx hb dL_refused_196 (by decide) (fun c_196 => ?_) (fun c_196 => ?_)
                      · have hM := if_f hM c_196
                        refine lv_iconst (v := (nI 0)) hx hb dL_refused_217 (by decide) ?_
                        have hz : bq (nI 0) = true := by decide
                        obtain rfl := Option.some.inj hM
                        exact hfin 218 _ _ _ dL_refused_218 hz hP hD hS
                      · have hM := if_t hM c_196
                        refine lv_aload_n hx hb dL_refused_199 rfl (lv_at hl 3 rfl) ?_
                        refine lv_iconst (v := (nI 4294967295)) hx hb dL_refused_200 (by decide) ?_
                        obtain ⟨q_201, hc_201, hM⟩ := bd_some hM
                        refine w_callV cx hP hD hS hA (co_degree g l h_p1 al_h_p1 (nI 4294967295) q_192.2 hc_201) (blk 0 127) pf_C ob_nd (obx_f rfl) (OB g h_p1 al_h_p1 q_201.2 ++ []) pf_S 0 8 rfl rfl yq_X8_degree rfl m_437 m_438 m_439 m_17 m_440 ⟨Nat.le_of_ble_eq_true rfl, Nat.le_of_ble_eq_true rfl⟩ rfl rfl hl.1 (Nat.le_of_ble_eq_true rfl) dL_refused_201 ⟨Nat.le_refl 0, Nat.le_refl 0⟩ rfl (fun H locs hP hD hS => ?_)
                        refine lv_iconst (v := (nI 4294967295)) hx hb dL_refused_204 (by decide) ?_
                        refine lv_icmp_ne (tgt := 217) hx hb dL_refused_205 (by decide) (fun c_205 => ?_) (fun c_205 => ?_)
                        · have hM := if_f hM c_205
                          refine lv_iconst (v := (nI 0)) hx hb dL_refused_217 (by decide) ?_
                          have hz : bq (nI 0) = true := by decide
                          obtain rfl := Option.some.inj hM
                          exact hfin 218 _ _ _ dL_refused_218 hz hP hD hS
                        · have hM := if_t hM c_205
                          refine lv_aload_n hx hb dL_refused_208 rfl (lv_at hl 3 rfl) ?_
                          refine lv_iload_n hx hb dL_refused_209 rfl (lv_at hl 1 rfl) ?_
                          obtain ⟨q_210, hc_210, hM⟩ := bd_some hM
                          refine w_callV cx hP hD hS hA (co_degree g l h_p1 al_h_p1 w_3 q_201.2 hc_210) (blk 0 127) pf_C ob_nd (obx_f rfl) (OB g h_p1 al_h_p1 q_210.2 ++ []) pf_S 0 8 rfl rfl yq_X8_degree rfl m_437 m_438 m_439 m_17 m_440 ⟨Nat.le_of_ble_eq_true rfl, Nat.le_of_ble_eq_true rfl⟩ rfl rfl hl.1 (Nat.le_of_ble_eq_true rfl) dL_refused_210 ⟨Nat.le_refl 0, Nat.le_refl 0⟩ rfl (fun H locs hP hD hS => ?_)
                          refine lv_iconst (v := (nI 4294967295)) hx hb dL_refused_213 (by decide) ?_
                          refine lv_icmp_eq (tgt := 219) hx hb dL_refused_214 (by decide) (fun c_214 => ?_) (fun c_214 => ?_)
                          · have hM := if_t hM c_214
                            refine lv_aload_n hx hb dL_refused_219 rfl (lv_at hl 3 rfl) ?_
                            refine lv_iconst (v := (nI 0)) hx hb dL_refused_220 (by decide) ?_
                            obtain ⟨q_221, hc_221, hM⟩ := bd_some hM
                            refine w_callV cx hP hD hS hA (co_walks g l h_p1 al_h_p1 (nI 0) q_210.2 hc_221) (blk 0 127) pf_C ob_nd (obx_f rfl) (OB g h_p1 al_h_p1 q_221.2 ++ []) pf_S 0 8 rfl rfl yq_X8_walks rfl m_388 m_389 m_390 m_17 m_391 ⟨Nat.le_of_ble_eq_true rfl, Nat.le_of_ble_eq_true rfl⟩ rfl rfl hl.1 (Nat.le_of_ble_eq_true rfl) dL_refused_221 ⟨Nat.le_refl 0, Nat.le_refl 0⟩ rfl (fun H locs hP hD hS => ?_)
                            refine lv_ldc2 hx hb hown (hts _ m_445) dL_refused_224 ?_
                            refine W.lcmp hx hb dL_refused_227 ?_
                            refine lv_topi (fun y_227 ey_227 => ?_)
                            have hM := nm_some hM y_227 ey_227
                            refine lv_if_ne (tgt := 294) hx hb dL_refused_228 (by decide) (fun c_228 => ?_) (fun c_228 => ?_)
                            · have hM := if_f hM c_228
                              refine lv_iconst (v := (nI 0)) hx hb dL_refused_294 (by decide) ?_
                              have hz : bq (nI 0) = true := by decide
                              obtain rfl := Option.some.inj hM
                              exact hfin 295 _ _ _ dL_refused_295 hz hP hD hS
                            · have hM := if_t hM c_228
                              refine lv_aload_n hx hb dL_refused_231 rfl (lv_at hl 3 rfl) ?_
                              refine lv_bipush (v := (nI 19)) hx hb dL_refused_232 (by decide) ?_
                              obtain ⟨q_234, hc_234, hM⟩ := bd_some hM
                              refine w_callV cx hP hD hS hA (co_walks g l h_p1 al_h_p1 (nI 19) q_221.2 hc_234) (blk 0 127) pf_C ob_nd (obx_f rfl) (OB g h_p1 al_h_p1 q_234.2 ++ []) pf_S 0 8 rfl rfl yq_X8_walks rfl m_388 m_389 m_390 m_17 m_391 ⟨Nat.le_of_ble_eq_true rfl, Nat.le_of_ble_eq_true rfl⟩ rfl rfl hl.1 (Nat.le_of_ble_eq_true rfl) dL_refused_234 ⟨Nat.le_refl 0, Nat.le_refl 0⟩ rfl (fun H locs hP hD hS => ?_)
                              refine lv_ldc2 hx hb hown (hts _ m_445) dL_refused_237 ?_
                              refine W.lcmp hx hb dL_refused_240 ?_
                              refine lv_topi (fun y_240 ey_240 => ?_)
                              have hM := nm_some hM y_240 ey_240
                              refine lv_if_ne (tgt := 294) hx hb dL_refused_241 (by decide) (fun c_241 => ?_) (fun c_241 => ?_)
                              · have hM := if_f hM c_241
                                refine lv_iconst (v := (nI 0)) hx hb dL_refused_294 (by decide) ?_
                                have hz : bq (nI 0) = true := by decide
                                obtain rfl := Option.some.inj hM
                                exact hfin 295 _ _ _ dL_refused_295 hz hP hD hS
                              · have hM := if_t hM c_241
                                refine lv_aload_n hx hb dL_refused_244 rfl (lv_at hl 3 rfl) ?_
                                refine lv_iconst (v := (nI 0)) hx hb dL_refused_245 (by decide) ?_
                                obtain ⟨q_246, hc_246, hM⟩ := bd_some hM
                                refine w_callV cx hP hD hS hA (co_signedWalks g l h_p1 al_h_p1 (nI 0) q_234.2 hc_246) (blk 0 127) pf_C ob_nd (obx_f rfl) (OB g h_p1 al_h_p1 q_246.2 ++ []) pf_S 0 8 rfl rfl yq_X8_signedWalks rfl m_359 m_360 m_361 m_17 m_362 ⟨Nat.le_of_ble_eq_true rfl, Nat.le_of_ble_eq_true rfl⟩ rfl rfl hl.1 (Nat.le_of_ble_eq_true rfl) dL_refused_246 ⟨Nat.le_refl 0, Nat.le_refl 0⟩ rfl (fun H locs hP hD hS => ?_)
                                refine lv_ldc2 hx hb hown (hts _ m_445) dL_refused_249 ?_
                                refine W.lcmp hx hb dL_refused_252 ?_
                                refine lv_topi (fun y_252 ey_252 => ?_)
                                have hM := nm_some hM y_252 ey_252
                                refine lv_if_ne (tgt := 294) hx hb dL_refused_253 (by decide) (fun c_253 => ?_) (fun c_253 => ?_)
                                · have hM := if_f hM c_253
                                  refine lv_iconst (v := (nI 0)) hx hb dL_refused_294 (by decide) ?_
                                  have hz : bq (nI 0) = true := by decide
                                  obtain rfl := Option.some.inj hM
                                  exact hfin 295 _ _ _ dL_refused_295 hz hP hD hS
                                · have hM := if_t hM c_253
                                  refine lv_aload_n hx hb dL_refused_256 rfl (lv_at hl 3 rfl) ?_
                                  refine lv_bipush (v := (nI 19)) hx hb dL_refused_257 (by decide) ?_
                                  obtain ⟨q_259, hc_259, hM⟩ := bd_some hM
                                  refine w_callV cx hP hD hS hA (co_coverWalks g l h_p1 al_h_p1 (nI 19) q_246.2 hc_259) (blk 0 127) pf_C ob_nd (obx_f rfl) (OB g h_p1 al_h_p1 q_259.2 ++ []) pf_S 0 8 rfl rfl yq_X8_coverWalks rfl m_446 m_447 m_448 m_17 m_449 ⟨Nat.le_of_ble_eq_true rfl, Nat.le_of_ble_eq_true rfl⟩ rfl rfl hl.1 (Nat.le_of_ble_eq_true rfl) dL_refused_259 ⟨Nat.le_refl 0, Nat.le_refl 0⟩ rfl (fun H locs hP hD hS => ?_)
                                  refine lv_ldc2 hx hb hown (hts _ m_445) dL_refused_262 ?_
                                  refine W.lcmp hx hb dL_refused_265 ?_
                                  refine lv_topi (fun y_265 ey_265 => ?_)
                                  have hM := nm_some hM y_265 ey_265
                                  refine lv_if_ne (tgt := 294) hx hb dL_refused_266 (by decide) (fun c_266 => ?_) (fun c_266 => ?_)
                                  · have hM := if_f hM c_266
                                    refine lv_iconst (v := (nI 0)) hx hb dL_refused_294 (by decide) ?_
                                    have hz : bq (nI 0) = true := by decide
                                    obtain rfl := Option.some.inj hM
                                    exact hfin 295 _ _ _ dL_refused_295 hz hP hD hS
                                  · have hM := if_t hM c_266
                                    refine lv_aload_n hx hb dL_refused_269 rfl (lv_at hl 3 rfl) ?_
                                    refine lv_iconst (v := (nI 0)) hx hb dL_refused_270 (by decide) ?_
                                    obtain ⟨q_271, hc_271, hM⟩ := bd_some hM
                                    refine w_callV cx hP hD hS hA (co_primes g l h_p1 al_h_p1 (nI 0) q_259.2 hc_271) (blk 0 127) pf_C ob_nd (obx_f rfl) (OB g h_p1 al_h_p1 q_271.2 ++ []) pf_S 0 8 rfl rfl yq_X8_primes rfl m_450 m_451 m_452 m_17 m_453 ⟨Nat.le_of_ble_eq_true rfl, Nat.le_of_ble_eq_true rfl⟩ rfl rfl hl.1 (Nat.le_of_ble_eq_true rfl) dL_refused_271 ⟨Nat.le_refl 0, Nat.le_refl 0⟩ rfl (fun H locs hP hD hS => ?_)
                                    refine lv_ldc2 hx hb hown (hts _ m_445) dL_refused_274 ?_
                                    refine W.lcmp hx hb dL_refused_277 ?_
                                    refine lv_topi (fun y_277 ey_277 => ?_)
                                    have hM := nm_some hM y_277 ey_277
                                    refine lv_if_ne (tgt := 294) hx hb dL_refused_278 (by decide) (fun c_278 => ?_) (fun c_278 => ?_)
                                    · have hM := if_f hM c_278
                                      refine lv_iconst (v := (nI 0)) hx hb dL_refused_294 (by decide) ?_
                                      have hz : bq (nI 0) = true := by decide
                                      obtain rfl := Option.some.inj hM
                                      exact hfin 295 _ _ _ dL_refused_295 hz hP hD hS
                                    · have hM := if_t hM c_278
                                      refine lv_aload_n hx hb dL_refused_281 rfl (lv_at hl 3 rfl) ?_
                                      refine lv_bipush (v := (nI 19)) hx hb dL_refused_282 (by decide) ?_
                                      obtain ⟨q_284, hc_284, hM⟩ := bd_some hM
                                      refine w_callV cx hP hD hS hA (co_positivePrimes g l h_p1 al_h_p1 (nI 19) q_271.2 hc_284) (blk 0 127) pf_C ob_nd (obx_f rfl) (OB g h_p1 al_h_p1 q_284.2 ++ []) pf_S 0 8 rfl rfl yq_X8_positivePrimes rfl m_459 m_460 m_461 m_17 m_462 ⟨Nat.le_of_ble_eq_true rfl, Nat.le_of_ble_eq_true rfl⟩ rfl rfl hl.1 (Nat.le_of_ble_eq_true rfl) dL_refused_284 ⟨Nat.le_refl 0, Nat.le_refl 0⟩ rfl (fun H locs hP hD hS => ?_)
                                      refine lv_ldc2 hx hb hown (hts _ m_445) dL_refused_287 ?_
                                      refine W.lcmp hx hb dL_refused_290 ?_
                                      refine lv_topi (fun y_290 ey_290 => ?_)
                                      have hM := nm_some hM y_290 ey_290
                                      refine lv_if_eq (tgt := 296) hx hb dL_refused_291 (by decide) (fun c_291 => ?_) (fun c_291 => ?_)
                                      · have hM := if_t hM c_291
                                        refine lv_aload_n hx hb dL_refused_296 rfl (lv_at hl 3 rfl) ?_
                                        refine lv_iconst (v := (nI 0)) hx hb dL_refused_297 (by decide) ?_
                                        refine lv_iconst (v := (nI 0)) hx hb dL_refused_298 (by decide) ?_
                                        refine lv_iconst (v := (nI 0)) hx hb dL_refused_299 (by decide) ?_
                                        obtain ⟨q_300, hc_300, hM⟩ := bd_some hM
                                        refine w_callV cx hP hD hS hA (co_primeEdge g l h_p1 al_h_p1 (nI 0) (nI 0) (nI 0) q_284.2 hc_300) (blk 0 127) pf_C ob_nd (obx_f rfl) (OB g h_p1 al_h_p1 q_300.2 ++ []) pf_S 0 8 rfl rfl yq_X8_primeEdge rfl m_470 m_471 m_472 m_17 m_473 ⟨Nat.le_of_ble_eq_true rfl, Nat.le_of_ble_eq_true rfl⟩ rfl rfl hl.1 (Nat.le_of_ble_eq_true rfl) dL_refused_300 ⟨Nat.le_refl 0, Nat.le_refl 0⟩ rfl (fun H locs hP hD hS => ?_)
                                        refine lv_iconst (v := (nI 4294967295)) hx hb dL_refused_303 (by decide) ?_
                                        refine lv_icmp_ne (tgt := 392) hx hb dL_refused_304 (by decide) (fun c_304 => ?_) (fun c_304 => ?_)
                                        · have hM := if_f hM c_304
                                          refine lv_iconst (v := (nI 0)) hx hb dL_refused_392 (by decide) ?_
                                          have hz : bq (nI 0) = true := by decide
                                          obtain rfl := Option.some.inj hM
                                          exact hfin 393 _ _ _ dL_refused_393 hz hP hD hS
                                        · have hM := if_t hM c_304
                                          refine lv_aload_n hx hb dL_refused_307 rfl (lv_at hl 3 rfl) ?_
                                          refine lv_bipush (v := (nI 6)) hx hb dL_refused_308 (by decide) ?_
                                          refine lv_iconst (v := (nI 0)) hx hb dL_refused_310 (by decide) ?_
                                          refine lv_iconst (v := (nI 0)) hx hb dL_refused_311 (by decide) ?_
                                          obtain ⟨q_312, hc_312, hM⟩ := bd_some hM
                                          refine w_callV cx hP hD hS hA (co_primeEdge g l h_p1 al_h_p1 (nI 6) (nI 0) (nI 0) q_300.2 hc_312) (blk 0 127) pf_C ob_nd (obx_f rfl) (OB g h_p1 al_h_p1 q_312.2 ++ []) pf_S 0 8 rfl rfl yq_X8_primeEdge rfl m_470 m_471 m_472 m_17 m_473 ⟨Nat.le_of_ble_eq_true rfl, Nat.le_of_ble_eq_true rfl⟩ rfl rfl hl.1 (Nat.le_of_ble_eq_true rfl) dL_refused_312 ⟨Nat.le_refl 0, Nat.le_refl 0⟩ rfl (fun H locs hP hD hS => ?_)
                                          refine lv_iconst (v := (nI 4294967295)) hx hb dL_refused_315 (by decide) ?_
                                          refine lv_icmp_ne (tgt := 392) hx hb dL_refused_316 (by decide) (fun c_316 => ?_) (fun c_316 => ?_)
                                          · have hM := if_f hM c_316
                                            refine lv_iconst (v := (nI 0)) hx hb dL_refused_392 (by decide) ?_
                                            have hz : bq (nI 0) = true := by decide
                                            obtain rfl := Option.some.inj hM
                                            exact hfin 393 _ _ _ dL_refused_393 hz hP hD hS
                                          · have hM := if_t hM c_316
                                            refine lv_aload_n hx hb dL_refused_319 rfl (lv_at hl 3 rfl) ?_
                                            refine lv_iconst (v := (nI 3)) hx hb dL_refused_320 (by decide) ?_
                                            refine lv_iconst (v := (nI 0)) hx hb dL_refused_321 (by decide) ?_
                                            refine lv_iconst (v := (nI 3)) hx hb dL_refused_322 (by decide) ?_
                                            obtain ⟨q_323, hc_323, hM⟩ := bd_some hM
                                            refine w_callV cx hP hD hS hA (co_primeEdge g l h_p1 al_h_p1 (nI 3) (nI 0) (nI 3) q_312.2 hc_323) (blk 0 127) pf_C ob_nd (obx_f rfl) (OB g h_p1 al_h_p1 q_323.2 ++ []) pf_S 0 8 rfl rfl yq_X8_primeEdge rfl m_470 m_471 m_472 m_17 m_473 ⟨Nat.le_of_ble_eq_true rfl, Nat.le_of_ble_eq_true rfl⟩ rfl rfl hl.1 (Nat.le_of_ble_eq_true rfl) dL_refused_323 ⟨Nat.le_refl 0, Nat.le_refl 0⟩ rfl (fun H locs hP hD hS => ?_)
                                            refine lv_iconst (v := (nI 4294967295)) hx hb dL_refused_326 (by decide) ?_
                                            refine lv_icmp_ne (tgt := 392) hx hb dL_refused_327 (by decide) (fun c_327 => ?_) (fun c_327 => ?_)
                                            · have hM := if_f hM c_327
                                              refine lv_iconst (v := (nI 0)) hx hb dL_refused_392 (by decide) ?_
                                              have hz : bq (nI 0) = true := by decide
                                              obtain rfl := Option.some.inj hM
                                              exact hfin 393 _ _ _ dL_refused_393 hz hP hD hS
                                            · have hM := if_t hM c_327
                                              refine lv_aload_n hx hb dL_refused_330 rfl (lv_at hl 3 rfl) ?_
                                              refine lv_iconst (v := (nI 3)) hx hb dL_refused_331 (by decide) ?_
                                              refine lv_iconst (v := (nI 0)) hx hb dL_refused_332 (by decide) ?_
                                              refine lv_iconst (v := (nI 4294967295)) hx hb dL_refused_333 (by decide) ?_
                                              obtain ⟨q_334, hc_334, hM⟩ := bd_some hM
                                              refine w_callV cx hP hD hS hA (co_primeEdge g l h_p1 al_h_p1 (nI 3) (nI 0) (nI 4294967295) q_323.2 hc_334) (blk 0 127) pf_C ob_nd (obx_f rfl) (OB g h_p1 al_h_p1 q_334.2 ++ []) pf_S 0 8 rfl rfl yq_X8_primeEdge rfl m_470 m_471 m_472 m_17 m_473 ⟨Nat.le_of_ble_eq_true rfl, Nat.le_of_ble_eq_true rfl⟩ rfl rfl hl.1 (Nat.le_of_ble_eq_true rfl) dL_refused_334 ⟨Nat.le_refl 0, Nat.le_refl 0⟩ rfl (fun H locs hP hD hS => ?_)
                                              refine lv_iconst (v := (nI 4294967295)) hx hb dL_refused_337 (by decide) ?_
                                              refine lv_icmp_ne (tgt := 392) hx hb dL_refused_338 (by decide) (fun c_338 => ?_) (fun c_338 => ?_)
                                              · have hM := if_f hM c_338
                                                refine lv_iconst (v := (nI 0)) hx hb dL_refused_392 (by decide) ?_
                                                have hz : bq (nI 0) = true := by decide
                                                obtain rfl := Option.some.inj hM
                                                exact hfin 393 _ _ _ dL_refused_393 hz hP hD hS
                                              · have hM := if_t hM c_338
                                                refine lv_aload_n hx hb dL_refused_341 rfl (lv_at hl 3 rfl) ?_
                                                refine lv_iconst (v := (nI 3)) hx hb dL_refused_342 (by decide) ?_
                                                refine lv_iconst (v := (nI 4294967295)) hx hb dL_refused_343 (by decide) ?_
                                                refine lv_iconst (v := (nI 0)) hx hb dL_refused_344 (by decide) ?_
                                                obtain ⟨q_345, hc_345, hM⟩ := bd_some hM
                                                refine w_callV cx hP hD hS hA (co_primeEdge g l h_p1 al_h_p1 (nI 3) (nI 4294967295) (nI 0) q_334.2 hc_345) (blk 0 127) pf_C ob_nd (obx_f rfl) (OB g h_p1 al_h_p1 q_345.2 ++ []) pf_S 0 8 rfl rfl yq_X8_primeEdge rfl m_470 m_471 m_472 m_17 m_473 ⟨Nat.le_of_ble_eq_true rfl, Nat.le_of_ble_eq_true rfl⟩ rfl rfl hl.1 (Nat.le_of_ble_eq_true rfl) dL_refused_345 ⟨Nat.le_refl 0, Nat.le_refl 0⟩ rfl (fun H locs hP hD hS => ?_)
                                                refine lv_iconst (v := (nI 4294967295)) hx hb dL_refused_348 (by decide) ?_
                                                refine lv_icmp_ne (tgt := 392) hx hb dL_refused_349 (by decide) (fun c_349 => ?_) (fun c_349 => ?_)
                                                · have hM := if_f hM c_349
                                                  refine lv_iconst (v := (nI 0)) hx hb dL_refused_392 (by decide) ?_
                                                  have hz : bq (nI 0) = true := by decide
                                                  obtain rfl := Option.some.inj hM
                                                  exact hfin 393 _ _ _ dL_refused_393 hz hP hD hS
                                                · have hM := if_t hM c_349
                                                  refine lv_aload_n hx hb dL_refused_352 rfl (lv_at hl 3 rfl) ?_
                                                  refine lv_iconst (v := (nI 0)) hx hb dL_refused_353 (by decide) ?_
                                                  refine lv_iconst (v := (nI 0)) hx hb dL_refused_354 (by decide) ?_
                                                  obtain ⟨q_355, hc_355, hM⟩ := bd_some hM
                                                  refine w_callV cx hP hD hS hA (co_primeSign g l h_p1 al_h_p1 (nI 0) (nI 0) q_345.2 hc_355) (blk 0 127) pf_C ob_nd (obx_f rfl) (OB g h_p1 al_h_p1 q_355.2 ++ []) pf_S 0 8 rfl rfl yq_X8_primeSign rfl m_490 m_491 m_492 m_17 m_493 ⟨Nat.le_of_ble_eq_true rfl, Nat.le_of_ble_eq_true rfl⟩ rfl rfl hl.1 (Nat.le_of_ble_eq_true rfl) dL_refused_355 ⟨Nat.le_refl 0, Nat.le_refl 0⟩ rfl (fun H locs hP hD hS => ?_)
                                                  refine lv_if_ne (tgt := 392) hx hb dL_refused_358 (by decide) (fun c_358 => ?_) (fun c_358 => ?_)
                                                  · have hM := if_f hM c_358
                                                    refine lv_iconst (v := (nI 0)) hx hb dL_refused_392 (by decide) ?_
                                                    have hz : bq (nI 0) = true := by decide
                                                    obtain rfl := Option.some.inj hM
                                                    exact hfin 393 _ _ _ dL_refused_393 hz hP hD hS
                                                  · have hM := if_t hM c_358
                                                    refine lv_aload_n hx hb dL_refused_361 rfl (lv_at hl 3 rfl) ?_
                                                    refine lv_bipush (v := (nI 6)) hx hb dL_refused_362 (by decide) ?_
                                                    refine lv_iconst (v := (nI 0)) hx hb dL_refused_364 (by decide) ?_
                                                    obtain ⟨q_365, hc_365, hM⟩ := bd_some hM
                                                    refine w_callV cx hP hD hS hA (co_primeSign g l h_p1 al_h_p1 (nI 6) (nI 0) q_355.2 hc_365) (blk 0 127) pf_C ob_nd (obx_f rfl) (OB g h_p1 al_h_p1 q_365.2 ++ []) pf_S 0 8 rfl rfl yq_X8_primeSign rfl m_490 m_491 m_492 m_17 m_493 ⟨Nat.le_of_ble_eq_true rfl, Nat.le_of_ble_eq_true rfl⟩ rfl rfl hl.1 (Nat.le_of_ble_eq_true rfl) dL_refused_365 ⟨Nat.le_refl 0, Nat.le_refl 0⟩ rfl (fun H locs hP hD hS => ?_)
                                                    refine lv_if_ne (tgt := 392) hx hb dL_refused_368 (by decide) (fun c_368 => ?_) (fun c_368 => ?_)
                                                    · have hM := if_f hM c_368
                                                      refine lv_iconst (v := (nI 0)) hx hb dL_refused_392 (by decide) ?_
                                                      have hz : bq (nI 0) = true := by decide
                                                      obtain rfl := Option.some.inj hM
                                                      exact hfin 393 _ _ _ dL_refused_393 hz hP hD hS
                                                    · have hM := if_t hM c_368
                                                      refine lv_aload_n hx hb dL_refused_371 rfl (lv_at hl 3 rfl) ?_
                                                      refine lv_iconst (v := (nI 3)) hx hb dL_refused_372 (by decide) ?_
                                                      refine lv_iconst (v := (nI 4294967295)) hx hb dL_refused_373 (by decide) ?_
                                                      obtain ⟨q_374, hc_374, hM⟩ := bd_some hM
                                                      refine w_callV cx hP hD hS hA (co_primeSign g l h_p1 al_h_p1 (nI 3) (nI 4294967295) q_365.2 hc_374) (blk 0 127) pf_C ob_nd (obx_f rfl) (OB g h_p1 al_h_p1 q_374.2 ++ []) pf_S 0 8 rfl rfl yq_X8_primeSign rfl m_490 m_491 m_492 m_17 m_493 ⟨Nat.le_of_ble_eq_true rfl, Nat.le_of_ble_eq_true rfl⟩ rfl rfl hl.1 (Nat.le_of_ble_eq_true rfl) dL_refused_374 ⟨Nat.le_refl 0, Nat.le_refl 0⟩ rfl (fun H locs hP hD hS => ?_)
                                                      refine lv_if_ne (tgt := 392) hx hb dL_refused_377 (by decide) (fun c_377 => ?_) (fun c_377 => ?_)
                                                      · have hM := if_f hM c_377
                                                        refine lv_iconst (v := (nI 0)) hx hb dL_refused_392 (by decide) ?_
                                                        have hz : bq (nI 0) = true := by decide
                                                        obtain rfl := Option.some.inj hM
                                                        exact hfin 393 _ _ _ dL_refused_393 hz hP hD hS
                                                      · have hM := if_t hM c_377
                                                        refine lv_aload_n hx hb dL_refused_380 rfl (lv_at hl 3 rfl) ?_
                                                        refine lv_iconst (v := (nI 1)) hx hb dL_refused_381 (by decide) ?_
                                                        refine lv_iconst (v := (nI 0)) hx hb dL_refused_382 (by decide) ?_
                                                        refine lv_iconst (v := (nI 0)) hx hb dL_refused_383 (by decide) ?_
                                                        obtain ⟨q_384, hc_384, hM⟩ := bd_some hM
                                                        refine w_callV cx hP hD hS hA (co_primeEdge g l h_p1 al_h_p1 (nI 1) (nI 0) (nI 0) q_374.2 hc_384) (blk 0 127) pf_C ob_nd (obx_f rfl) (OB g h_p1 al_h_p1 q_384.2 ++ []) pf_S 0 8 rfl rfl yq_X8_primeEdge rfl m_470 m_471 m_472 m_17 m_473 ⟨Nat.le_of_ble_eq_true rfl, Nat.le_of_ble_eq_true rfl⟩ rfl rfl hl.1 (Nat.le_of_ble_eq_true rfl) dL_refused_384 ⟨Nat.le_refl 0, Nat.le_refl 0⟩ rfl (fun H locs hP hD hS => ?_)
                                                        refine lv_bipush (v := (nI 4294967287)) hx hb dL_refused_387 (by decide) ?_
                                                        refine lv_icmp_eq (tgt := 394) hx hb dL_refused_389 (by decide) (fun c_389 => ?_) (fun c_389 => ?_)
                                                        · have hM := if_t hM c_389
                                                          refine lv_aload_n hx hb dL_refused_394 rfl (lv_at hl 3 rfl) ?_
                                                          refine lv_iconst (v := (nI 4294967295)) hx hb dL_refused_395 (by decide) ?_
                                                          obtain ⟨q_396, hc_396, hM⟩ := bd_some hM
                                                          refine w_callV cx hP hD hS hA (co_edgeCoefficient g l h_p1 al_h_p1 (nI 4294967295) q_384.2 hc_396) (blk 0 127) pf_C ob_nd (obx_f rfl) (OB g h_p1 al_h_p1 q_396.2 ++ []) pf_S 0 8 rfl rfl yq_X8_edgeCoefficient rfl m_498 m_499 m_500 m_17 m_501 ⟨Nat.le_of_ble_eq_true rfl, Nat.le_of_ble_eq_true rfl⟩ rfl rfl hl.1 (Nat.le_of_ble_eq_true rfl) dL_refused_396 ⟨Nat.le_refl 0, Nat.le_refl 0⟩ rfl (fun H locs hP hD hS => ?_)
                                                          refine lv_ldc2 hx hb hown (hts _ m_445) dL_refused_399 ?_
                                                          refine W.lcmp hx hb dL_refused_402 ?_
                                                          refine lv_topi (fun y_402 ey_402 => ?_)
                                                          have hM := nm_some hM y_402 ey_402
                                                          refine lv_if_ne (tgt := 508) hx hb dL_refused_403 (by decide) (fun c_403 => ?_) (fun c_403 => ?_)
                                                          · have hM := if_f hM c_403
                                                            refine lv_iconst (v := (nI 0)) hx hb dL_refused_508 (by decide) ?_
                                                            have hz : bq (nI 0) = true := by decide
                                                            obtain rfl := Option.some.inj hM
                                                            exact hfin 509 _ _ _ dL_refused_509 hz hP hD hS
                                                          · have hM := if_t hM c_403
                                                            refine lv_aload_n hx hb dL_refused_406 rfl (lv_at hl 3 rfl) ?_
                                                            refine lv_bipush (v := (nI 19)) hx hb dL_refused_407 (by decide) ?_
                                                            obtain ⟨q_409, hc_409, hM⟩ := bd_some hM
                                                            refine w_callV cx hP hD hS hA (co_edgeCoefficient g l h_p1 al_h_p1 (nI 19) q_396.2 hc_409) (blk 0 127) pf_C ob_nd (obx_f rfl) (OB g h_p1 al_h_p1 q_409.2 ++ []) pf_S 0 8 rfl rfl yq_X8_edgeCoefficient rfl m_498 m_499 m_500 m_17 m_501 ⟨Nat.le_of_ble_eq_true rfl, Nat.le_of_ble_eq_true rfl⟩ rfl rfl hl.1 (Nat.le_of_ble_eq_true rfl) dL_refused_409 ⟨Nat.le_refl 0, Nat.le_refl 0⟩ rfl (fun H locs hP hD hS => ?_)
                                                            refine lv_ldc2 hx hb hown (hts _ m_445) dL_refused_412 ?_
                                                            refine W.lcmp hx hb dL_refused_415 ?_
                                                            refine lv_topi (fun y_415 ey_415 => ?_)
                                                            have hM := nm_some hM y_415 ey_415
                                                            refine lv_if_ne (tgt := 508) hx hb dL_refused_416 (by decide) (fun c_416 => ?_) (fun c_416 => ?_)
                                                            · have hM := if_f hM c_416
                                                              refine lv_iconst (v := (nI 0)) hx hb dL_refused_508 (by decide) ?_
                                                              have hz : bq (nI 0) = true := by decide
                                                              obtain rfl := Option.some.inj hM
                                                              exact hfin 509 _ _ _ dL_refused_509 hz hP hD hS
                                                            · have hM := if_t hM c_416
                                                              refine lv_aload_n hx hb dL_refused_419 rfl (lv_at hl 3 rfl) ?_
                                                              refine lv_bipush (v := (nI 19)) hx hb dL_refused_420 (by decide) ?_
                                                              obtain ⟨q_422, hc_422, hM⟩ := bd_some hM
                                                              refine w_callV cx hP hD hS hA (co_signedCoefficient g l h_p1 al_h_p1 (nI 19) q_409.2 hc_422) (blk 0 127) pf_C ob_nd (obx_f rfl) (OB g h_p1 al_h_p1 q_422.2 ++ []) pf_S 0 8 rfl rfl yq_X8_signedCoefficient rfl m_513 m_514 m_515 m_17 m_516 ⟨Nat.le_of_ble_eq_true rfl, Nat.le_of_ble_eq_true rfl⟩ rfl rfl hl.1 (Nat.le_of_ble_eq_true rfl) dL_refused_422 ⟨Nat.le_refl 0, Nat.le_refl 0⟩ rfl (fun H locs hP hD hS => ?_)
                                                              refine lv_ldc2 hx hb hown (hts _ m_445) dL_refused_425 ?_
                                                              refine W.lcmp hx hb dL_refused_428 ?_
                                                              refine lv_topi (fun y_428 ey_428 => ?_)
                                                              have hM := nm_some hM y_428 ey_428
                                                              refine lv_if_ne (tgt := 508) hx hb dL_refused_429 (by decide) (fun c_429 => ?_) (fun c_429 => ?_)
                                                              · have hM := if_f hM c_429
                                                                refine lv_iconst (v := (nI 0)) hx hb dL_refused_508 (by decide) ?_
                                                                have hz : bq (nI 0) = true := by decide
                                                                obtain rfl := Option.some.inj hM
                                                                exact hfin 509 _ _ _ dL_refused_509 hz hP hD hS
                                                              · have hM := if_t hM c_429
                                                                refine lv_aload_n hx hb dL_refused_432 rfl (lv_at hl 3 rfl) ?_
                                                                refine lv_bipush (v := (nI 13)) hx hb dL_refused_433 (by decide) ?_
                                                                obtain ⟨q_435, hc_435, hM⟩ := bd_some hM
                                                                refine w_callV cx hP hD hS hA (co_vertexCoefficient g l h_p1 al_h_p1 (nI 13) q_422.2 hc_435) (blk 0 127) pf_C ob_nd (obx_f rfl) (OB g h_p1 al_h_p1 q_435.2 ++ []) pf_S 0 8 rfl rfl yq_X8_vertexCoefficient rfl m_517 m_518 m_519 m_17 m_520 ⟨Nat.le_of_ble_eq_true rfl, Nat.le_of_ble_eq_true rfl⟩ rfl rfl hl.1 (Nat.le_of_ble_eq_true rfl) dL_refused_435 ⟨Nat.le_refl 0, Nat.le_refl 0⟩ rfl (fun H locs hP hD hS => ?_)
                                                                refine lv_ldc2 hx hb hown (hts _ m_445) dL_refused_438 ?_
                                                                refine W.lcmp hx hb dL_refused_441 ?_
                                                                refine lv_topi (fun y_441 ey_441 => ?_)
                                                                have hM := nm_some hM y_441 ey_441
                                                                refine lv_if_ne (tgt := 508) hx hb dL_refused_442 (by decide) (fun c_442 => ?_) (fun c_442 => ?_)
                                                                · have hM := if_f hM c_442
                                                                  refine lv_iconst (v := (nI 0)) hx hb dL_refused_508 (by decide) ?_
                                                                  have hz : bq (nI 0) = true := by decide
                                                                  obtain rfl := Option.some.inj hM
                                                                  exact hfin 509 _ _ _ dL_refused_509 hz hP hD hS
                                                                · have hM := if_t hM c_442
                                                                  refine lv_aload_n hx hb dL_refused_445 rfl (lv_at hl 3 rfl) ?_
                                                                  refine lv_iconst (v := (nI 4294967295)) hx hb dL_refused_446 (by decide) ?_
                                                                  obtain ⟨q_447, hc_447, hM⟩ := bd_some hM
                                                                  refine w_callV cx hP hD hS hA (co_bassCoefficient g l h_p1 al_h_p1 (nI 4294967295) q_435.2 hc_447) (blk 0 127) pf_C ob_nd (obx_f rfl) (OB g h_p1 al_h_p1 q_447.2 ++ []) pf_S 0 8 rfl rfl yq_X8_bassCoefficient rfl m_550 m_551 m_552 m_17 m_553 ⟨Nat.le_of_ble_eq_true rfl, Nat.le_of_ble_eq_true rfl⟩ rfl rfl hl.1 (Nat.le_of_ble_eq_true rfl) dL_refused_447 ⟨Nat.le_refl 0, Nat.le_refl 0⟩ rfl (fun H locs hP hD hS => ?_)
                                                                  refine lv_ldc2 hx hb hown (hts _ m_445) dL_refused_450 ?_
                                                                  refine W.lcmp hx hb dL_refused_453 ?_
                                                                  refine lv_topi (fun y_453 ey_453 => ?_)
                                                                  have hM := nm_some hM y_453 ey_453
                                                                  refine lv_if_ne (tgt := 508) hx hb dL_refused_454 (by decide) (fun c_454 => ?_) (fun c_454 => ?_)
                                                                  · have hM := if_f hM c_454
                                                                    refine lv_iconst (v := (nI 0)) hx hb dL_refused_508 (by decide) ?_
                                                                    have hz : bq (nI 0) = true := by decide
                                                                    obtain rfl := Option.some.inj hM
                                                                    exact hfin 509 _ _ _ dL_refused_509 hz hP hD hS
                                                                  · have hM := if_t hM c_454
                                                                    refine lv_aload_n hx hb dL_refused_457 rfl (lv_at hl 3 rfl) ?_
                                                                    refine lv_bipush (v := (nI 13)) hx hb dL_refused_458 (by decide) ?_
                                                                    obtain ⟨q_460, hc_460, hM⟩ := bd_some hM
                                                                    refine w_callV cx hP hD hS hA (co_zetaCoefficient g l h_p1 al_h_p1 (nI 13) q_447.2 hc_460) (blk 0 127) pf_C ob_nd (obx_f rfl) (OB g h_p1 al_h_p1 q_460.2 ++ []) pf_S 0 8 rfl rfl yq_X8_zetaCoefficient rfl m_558 m_559 m_560 m_17 m_561 ⟨Nat.le_of_ble_eq_true rfl, Nat.le_of_ble_eq_true rfl⟩ rfl rfl hl.1 (Nat.le_of_ble_eq_true rfl) dL_refused_460 ⟨Nat.le_refl 0, Nat.le_refl 0⟩ rfl (fun H locs hP hD hS => ?_)
                                                                    refine lv_ldc2 hx hb hown (hts _ m_445) dL_refused_463 ?_
                                                                    refine W.lcmp hx hb dL_refused_466 ?_
                                                                    refine lv_topi (fun y_466 ey_466 => ?_)
                                                                    have hM := nm_some hM y_466 ey_466
                                                                    refine lv_if_ne (tgt := 508) hx hb dL_refused_467 (by decide) (fun c_467 => ?_) (fun c_467 => ?_)
                                                                    · have hM := if_f hM c_467
                                                                      refine lv_iconst (v := (nI 0)) hx hb dL_refused_508 (by decide) ?_
                                                                      have hz : bq (nI 0) = true := by decide
                                                                      obtain rfl := Option.some.inj hM
                                                                      exact hfin 509 _ _ _ dL_refused_509 hz hP hD hS
                                                                    · have hM := if_t hM c_467
                                                                      refine lv_aload_n hx hb dL_refused_470 rfl (lv_at hl 3 rfl) ?_
                                                                      refine lv_iconst (v := (nI 3)) hx hb dL_refused_471 (by decide) ?_
                                                                      obtain ⟨q_472, hc_472, hM⟩ := bd_some hM
                                                                      refine w_callV cx hP hD hS hA (co_edgeValue g l h_p1 al_h_p1 (nI 3) q_460.2 hc_472) (blk 0 127) pf_C ob_nd (obx_f rfl) (OB g h_p1 al_h_p1 q_472.2 ++ []) pf_S 0 8 rfl rfl yq_X8_edgeValue rfl m_566 m_567 m_568 m_17 m_569 ⟨Nat.le_of_ble_eq_true rfl, Nat.le_of_ble_eq_true rfl⟩ rfl rfl hl.1 (Nat.le_of_ble_eq_true rfl) dL_refused_472 ⟨Nat.le_refl 0, Nat.le_refl 0⟩ rfl (fun H locs hP hD hS => ?_)
                                                                      refine lv_ldc2 hx hb hown (hts _ m_445) dL_refused_475 ?_
                                                                      refine W.lcmp hx hb dL_refused_478 ?_
                                                                      refine lv_topi (fun y_478 ey_478 => ?_)
                                                                      have hM := nm_some hM y_478 ey_478
                                                                      refine lv_if_ne (tgt := 508) hx hb dL_refused_479 (by decide) (fun c_479 => ?_) (fun c_479 => ?_)
                                                                      · have hM := if_f hM c_479
                                                                        refine lv_iconst (v := (nI 0)) hx hb dL_refused_508 (by decide) ?_
                                                                        have hz : bq (nI 0) = true := by decide
                                                                        obtain rfl := Option.some.inj hM
                                                                        exact hfin 509 _ _ _ dL_refused_509 hz hP hD hS
                                                                      · have hM := if_t hM c_479
                                                                        refine lv_aload_n hx hb dL_refused_482 rfl (lv_at hl 3 rfl) ?_
                                                                        refine lv_bipush (v := (nI 4294967293)) hx hb dL_refused_483 (by decide) ?_
                                                                        obtain ⟨q_485, hc_485, hM⟩ := bd_some hM
                                                                        refine w_callV cx hP hD hS hA (co_edgeValue g l h_p1 al_h_p1 (nI 4294967293) q_472.2 hc_485) (blk 0 127) pf_C ob_nd (obx_f rfl) (OB g h_p1 al_h_p1 q_485.2 ++ []) pf_S 0 8 rfl rfl yq_X8_edgeValue rfl m_566 m_567 m_568 m_17 m_569 ⟨Nat.le_of_ble_eq_true rfl, Nat.le_of_ble_eq_true rfl⟩ rfl rfl hl.1 (Nat.le_of_ble_eq_true rfl) dL_refused_485 ⟨Nat.le_refl 0, Nat.le_refl 0⟩ rfl (fun H locs hP hD hS => ?_)
                                                                        refine lv_ldc2 hx hb hown (hts _ m_445) dL_refused_488 ?_
                                                                        refine W.lcmp hx hb dL_refused_491 ?_
                                                                        refine lv_topi (fun y_491 ey_491 => ?_)
                                                                        have hM := nm_some hM y_491 ey_491
                                                                        refine lv_if_ne (tgt := 508) hx hb dL_refused_492 (by decide) (fun c_492 => ?_) (fun c_492 => ?_)
                                                                        · have hM := if_f hM c_492
                                                                          refine lv_iconst (v := (nI 0)) hx hb dL_refused_508 (by decide) ?_
                                                                          have hz : bq (nI 0) = true := by decide
                                                                          obtain rfl := Option.some.inj hM
                                                                          exact hfin 509 _ _ _ dL_refused_509 hz hP hD hS
                                                                        · have hM := if_t hM c_492
                                                                          refine lv_aload_n hx hb dL_refused_495 rfl (lv_at hl 3 rfl) ?_
                                                                          refine lv_bipush (v := (nI 19)) hx hb dL_refused_496 (by decide) ?_
                                                                          obtain ⟨q_498, hc_498, hM⟩ := bd_some hM
                                                                          refine w_callV cx hP hD hS hA (co_taylorAtOne g l h_p1 al_h_p1 (nI 19) q_485.2 hc_498) (blk 0 127) pf_C ob_nd (obx_f rfl) (OB g h_p1 al_h_p1 q_498.2 ++ []) pf_S 0 8 rfl rfl yq_X8_taylorAtOne rfl m_574 m_575 m_576 m_17 m_577 ⟨Nat.le_of_ble_eq_true rfl, Nat.le_of_ble_eq_true rfl⟩ rfl rfl hl.1 (Nat.le_of_ble_eq_true rfl) dL_refused_498 ⟨Nat.le_refl 0, Nat.le_refl 0⟩ rfl (fun H locs hP hD hS => ?_)
                                                                          refine lv_ldc2 hx hb hown (hts _ m_445) dL_refused_501 ?_
                                                                          refine W.lcmp hx hb dL_refused_504 ?_
                                                                          refine lv_topi (fun y_504 ey_504 => ?_)
                                                                          have hM := nm_some hM y_504 ey_504
                                                                          refine lv_if_eq (tgt := 510) hx hb dL_refused_505 (by decide) (fun c_505 => ?_) (fun c_505 => ?_)
                                                                          · have hM := if_t hM c_505
                                                                            refine lv_aload_n hx hb dL_refused_510 rfl (lv_at hl 3 rfl) ?_
                                                                            obtain ⟨q_511, hc_511, hM⟩ := bd_some hM
                                                                            refine w_callS cx hP hD hS hA (c_L_digest g l h_p1 al_h_p1 q_498.2 hc_511) (blk 0 127) pf_C ob_nd (obx_f rfl) (OB g h_p1 al_h_p1 q_511.2 ++ []) pf_S yq_L_digest m_343 m_344 m_16 m_345 ⟨Nat.le_of_ble_eq_true rfl, Nat.le_of_ble_eq_true rfl⟩ rfl rfl hl.1 (Nat.le_of_ble_eq_true rfl) dL_refused_511 ⟨Nat.le_refl 0, Nat.le_refl 0⟩ rfl (fun H locs hP hD hS => ?_)
                                                                            refine lv_lload_n hx hb dL_refused_514 rfl (lv_at hl 2 rfl) ?_
                                                                            refine W.lcmp hx hb dL_refused_515 ?_
                                                                            refine lv_if_ne (tgt := 523) hx hb dL_refused_516 (by decide) (fun c_516 => ?_) (fun c_516 => ?_)
                                                                            · have hM := if_f hM c_516
                                                                              refine lv_iconst (v := (nI 0)) hx hb dL_refused_523 (by decide) ?_
                                                                              have hz : bq (nI 0) = true := by decide
                                                                              obtain rfl := Option.some.inj hM
                                                                              exact hfin 524 _ _ _ dL_refused_524 hz hP hD hS
                                                                            · have hM := if_t hM c_516
                                                                              refine lv_iconst (v := (nI 1)) hx hb dL_refused_519 (by decide) ?_
                                                                              refine lv_goto (tgt := 524) hx hb dL_refused_520 (by decide) ?_
                                                                              have hz : bq (nI 1) = true := by decide
                                                                              obtain rfl := Option.some.inj hM
                                                                              exact hfin 524 _ _ _ dL_refused_524 hz hP hD hS
                                                                          · have hM := if_f hM c_505
                                                                            refine lv_iconst (v := (nI 0)) hx hb dL_refused_508 (by decide) ?_
                                                                            have hz : bq (nI 0) = true := by decide
                                                                            obtain rfl := Option.some.inj hM
                                                                            exact hfin 509 _ _ _ dL_refused_509 hz hP hD hS
                                                        · have hM := if_f hM c_389
                                                          refine lv_iconst (v := (nI 0)) hx hb dL_refused_392 (by decide) ?_
                                                          have hz : bq (nI 0) = true := by decide
                                                          obtain rfl := Option.some.inj hM
                                                          exact hfin 393 _ _ _ dL_refused_393 hz hP hD hS
                                      · have hM := if_f hM c_291
                                        refine lv_iconst (v := (nI 0)) hx hb dL_refused_294 (by decide) ?_
                                        have hz : bq (nI 0) = true := by decide
                                        obtain rfl := Option.some.inj hM
                                        exact hfin 295 _ _ _ dL_refused_295 hz hP hD hS
                          · have hM := if_f hM c_214
                            refine lv_iconst (v := (nI 0)) hx hb dL_refused_217 (by decide) ?_
                            have hz : bq (nI 0) = true := by decide
                            obtain rfl := Option.some.inj hM
                            exact hfin 218 _ _ _ dL_refused_218 hz hP hD hS
              · have hM := if_f hM c_150
                refine lv_iconst (v := (nI 0)) hx hb dL_refused_153 (by decide) ?_
                have hz : bq (nI 0) = true := by decide
                obtain rfl := Option.some.inj hM
                exact hfin 154 _ _ _ dL_refused_154 hz hP hD hS
  have hS : va_S A s.heap s.heap [] := va_S.rf
  refine lv_aload_n hx hb dL_refused_0 rfl (lv_at hl 0 rfl) ?_
  obtain ⟨q_1, hc_1, hM⟩ := bd_some hM
  refine w_callS cx hP hD hS hA (c_L_digest g l h_p1 al_h_p1 S_p1 hc_1) (blk 0 127) pf_C ob_nd (obx_f rfl) (OB g h_p1 al_h_p1 q_1.2 ++ []) pf_S yq_L_digest m_343 m_344 m_16 m_345 ⟨Nat.le_of_ble_eq_true rfl, Nat.le_of_ble_eq_true rfl⟩ rfl rfl hl.1 (Nat.le_of_ble_eq_true rfl) dL_refused_1 ⟨Nat.le_refl 0, Nat.le_refl 0⟩ rfl (fun H locs hP hD hS => ?_)
  refine lv_lstore_n (lv' := [(1, .long q_1.1), (0, .ref h_p1)]) hx hb dL_refused_4 rfl hl (by decide) rfl (fun ls hl => ?_)
  refine lv_aload_n hx hb dL_refused_5 rfl (lv_at hl 1 rfl) ?_
  obtain ⟨q_6, hc_6, hM⟩ := bd_some hM
  refine w_callV cx hP hD hS hA (co_vertexCount g l h_p1 al_h_p1 q_1.2 hc_6) (blk 0 127) pf_C ob_nd (obx_f rfl) (OB g h_p1 al_h_p1 q_6.2 ++ []) pf_S 0 8 rfl rfl yq_X8_vertexCount rfl m_320 m_321 m_322 m_17 m_323 ⟨Nat.le_of_ble_eq_true rfl, Nat.le_of_ble_eq_true rfl⟩ rfl rfl hl.1 (Nat.le_of_ble_eq_true rfl) dL_refused_6 ⟨Nat.le_refl 0, Nat.le_refl 0⟩ rfl (fun H locs hP hD hS => ?_)
  refine lv_istore_n (lv' := [(3, .int q_6.1), (1, .long q_1.1), (0, .ref h_p1)]) hx hb dL_refused_9 rfl hl (by decide) rfl (fun ls hl => ?_)
  refine lv_aload_n hx hb dL_refused_10 rfl (lv_at hl 2 rfl) ?_
  obtain ⟨q_11, hc_11, hM⟩ := bd_some hM
  refine w_callV cx hP hD hS hA (co_edgeCount g l h_p1 al_h_p1 q_6.2 hc_11) (blk 0 127) pf_C ob_nd (obx_f rfl) (OB g h_p1 al_h_p1 q_11.2 ++ []) pf_S 0 8 rfl rfl yq_X8_edgeCount rfl m_324 m_325 m_326 m_17 m_327 ⟨Nat.le_of_ble_eq_true rfl, Nat.le_of_ble_eq_true rfl⟩ rfl rfl hl.1 (Nat.le_of_ble_eq_true rfl) dL_refused_11 ⟨Nat.le_refl 0, Nat.le_refl 0⟩ rfl (fun H locs hP hD hS => ?_)
  refine lv_istore (lv' := [(4, .int q_11.1), (3, .int q_6.1), (1, .long q_1.1), (0, .ref h_p1)]) hx hb dL_refused_14 hl (by decide) rfl (fun ls hl => ?_)
  refine lv_aload_n hx hb dL_refused_16 rfl (lv_at hl 3 rfl) ?_
  refine lv_iconst (v := (nI 0)) hx hb dL_refused_17 (by decide) ?_
  obtain ⟨q_18, hc_18, hM⟩ := bd_some hM
  refine w_callV cx hP hD hS hA (co_configure g l h_p1 al_h_p1 (nI 0) q_11.2 hc_18) (blk 0 127) pf_C ob_nd (obx_f rfl) (OB g h_p1 al_h_p1 q_18.2 ++ []) pf_S 0 8 rfl rfl yq_X8_configure rfl m_339 m_340 m_341 m_17 m_342 ⟨Nat.le_of_ble_eq_true rfl, Nat.le_of_ble_eq_true rfl⟩ rfl rfl hl.1 (Nat.le_of_ble_eq_true rfl) dL_refused_18 ⟨Nat.le_refl 0, Nat.le_refl 0⟩ rfl (fun H locs hP hD hS => ?_)
  refine lv_iconst (v := (nI 4294967295)) hx hb dL_refused_21 (by decide) ?_
  refine lv_icmp_ne (tgt := 95) hx hb dL_refused_22 (by decide) (fun c_22 => ?_) (fun c_22 => ?_)
  · have hM := if_f hM c_22
    refine lv_iconst (v := (nI 0)) hx hb dL_refused_95 (by decide) ?_
    have hz : bq (nI 0) = true := by decide
    obtain rfl := Option.some.inj hM
    exact hfin 96 _ _ _ dL_refused_96 hz hP hD hS
  · have hM := if_t hM c_22
    refine lv_aload_n hx hb dL_refused_25 rfl (lv_at hl 3 rfl) ?_
    refine lv_bipush (v := (nI 7)) hx hb dL_refused_26 (by decide) ?_
    obtain ⟨q_28, hc_28, hM⟩ := bd_some hM
    refine w_callV cx hP hD hS hA (co_configure g l h_p1 al_h_p1 (nI 7) q_18.2 hc_28) (blk 0 127) pf_C ob_nd (obx_f rfl) (OB g h_p1 al_h_p1 q_28.2 ++ []) pf_S 0 8 rfl rfl yq_X8_configure rfl m_339 m_340 m_341 m_17 m_342 ⟨Nat.le_of_ble_eq_true rfl, Nat.le_of_ble_eq_true rfl⟩ rfl rfl hl.1 (Nat.le_of_ble_eq_true rfl) dL_refused_28 ⟨Nat.le_refl 0, Nat.le_refl 0⟩ rfl (fun H locs hP hD hS => ?_)
    refine lv_iconst (v := (nI 4294967295)) hx hb dL_refused_31 (by decide) ?_
    refine lv_icmp_ne (tgt := 95) hx hb dL_refused_32 (by decide) (fun c_32 => ?_) (fun c_32 => ?_)
    · have hM := if_f hM c_32
      refine lv_iconst (v := (nI 0)) hx hb dL_refused_95 (by decide) ?_
      have hz : bq (nI 0) = true := by decide
      obtain rfl := Option.some.inj hM
      exact hfin 96 _ _ _ dL_refused_96 hz hP hD hS
    · have hM := if_t hM c_32
      refine lv_aload_n hx hb dL_refused_35 rfl (lv_at hl 3 rfl) ?_
      refine lv_iconst (v := (nI 4294967295)) hx hb dL_refused_36 (by decide) ?_
      refine lv_iconst (v := (nI 0)) hx hb dL_refused_37 (by decide) ?_
      refine lv_iconst (v := (nI 1)) hx hb dL_refused_38 (by decide) ?_
      obtain ⟨q_39, hc_39, hM⟩ := bd_some hM
      refine w_callV cx hP hD hS hA (co_addEdge g l h_p1 al_h_p1 (nI 4294967295) (nI 0) (nI 1) q_28.2 hc_39) (blk 0 127) pf_C ob_nd (obx_f rfl) (OB g h_p1 al_h_p1 q_39.2 ++ []) pf_S 0 8 rfl rfl yq_X8_addEdge rfl m_231 m_232 m_233 m_17 m_234 ⟨Nat.le_of_ble_eq_true rfl, Nat.le_of_ble_eq_true rfl⟩ rfl rfl hl.1 (Nat.le_of_ble_eq_true rfl) dL_refused_39 ⟨Nat.le_refl 0, Nat.le_refl 0⟩ rfl (fun H locs hP hD hS => ?_)
      refine lv_iconst (v := (nI 4294967295)) hx hb dL_refused_42 (by decide) ?_
      refine lv_icmp_ne (tgt := 95) hx hb dL_refused_43 (by decide) (fun c_43 => ?_) (fun c_43 => ?_)
      · have hM := if_f hM c_43
        refine lv_iconst (v := (nI 0)) hx hb dL_refused_95 (by decide) ?_
        have hz : bq (nI 0) = true := by decide
        obtain rfl := Option.some.inj hM
        exact hfin 96 _ _ _ dL_refused_96 hz hP hD hS
      · have hM := if_t hM c_43
        refine lv_aload_n hx hb dL_refused_46 rfl (lv_at hl 3 rfl) ?_
        refine lv_iconst (v := (nI 0)) hx hb dL_refused_47 (by decide) ?_
        refine lv_iload_n hx hb dL_refused_48 rfl (lv_at hl 1 rfl) ?_
        refine lv_iconst (v := (nI 1)) hx hb dL_refused_49 (by decide) ?_
        obtain ⟨q_50, hc_50, hM⟩ := bd_some hM
        refine w_callV cx hP hD hS hA (co_addEdge g l h_p1 al_h_p1 (nI 0) q_6.1 (nI 1) q_39.2 hc_50) (blk 0 127) pf_C ob_nd (obx_f rfl) (OB g h_p1 al_h_p1 q_50.2 ++ []) pf_S 0 8 rfl rfl yq_X8_addEdge rfl m_231 m_232 m_233 m_17 m_234 ⟨Nat.le_of_ble_eq_true rfl, Nat.le_of_ble_eq_true rfl⟩ rfl rfl hl.1 (Nat.le_of_ble_eq_true rfl) dL_refused_50 ⟨Nat.le_refl 0, Nat.le_refl 0⟩ rfl (fun H locs hP hD hS => ?_)
        refine lv_iconst (v := (nI 4294967295)) hx hb dL_refused_53 (by decide) ?_
        refine lv_icmp_ne (tgt := 95) hx hb dL_refused_54 (by decide) (fun c_54 => ?_) (fun c_54 => ?_)
        · have hM := if_f hM c_54
          refine lv_iconst (v := (nI 0)) hx hb dL_refused_95 (by decide) ?_
          have hz : bq (nI 0) = true := by decide
          obtain rfl := Option.some.inj hM
          exact hfin 96 _ _ _ dL_refused_96 hz hP hD hS
        · have hM := if_t hM c_54
          refine lv_aload_n hx hb dL_refused_57 rfl (lv_at hl 3 rfl) ?_
          refine lv_iconst (v := (nI 0)) hx hb dL_refused_58 (by decide) ?_
          refine lv_iconst (v := (nI 0)) hx hb dL_refused_59 (by decide) ?_
          refine lv_iconst (v := (nI 1)) hx hb dL_refused_60 (by decide) ?_
          obtain ⟨q_61, hc_61, hM⟩ := bd_some hM
          refine w_callV cx hP hD hS hA (co_addEdge g l h_p1 al_h_p1 (nI 0) (nI 0) (nI 1) q_50.2 hc_61) (blk 0 127) pf_C ob_nd (obx_f rfl) (OB g h_p1 al_h_p1 q_61.2 ++ []) pf_S 0 8 rfl rfl yq_X8_addEdge rfl m_231 m_232 m_233 m_17 m_234 ⟨Nat.le_of_ble_eq_true rfl, Nat.le_of_ble_eq_true rfl⟩ rfl rfl hl.1 (Nat.le_of_ble_eq_true rfl) dL_refused_61 ⟨Nat.le_refl 0, Nat.le_refl 0⟩ rfl (fun H locs hP hD hS => ?_)
          refine lv_iconst (v := (nI 4294967295)) hx hb dL_refused_64 (by decide) ?_
          refine lv_icmp_ne (tgt := 95) hx hb dL_refused_65 (by decide) (fun c_65 => ?_) (fun c_65 => ?_)
          · have hM := if_f hM c_65
            refine lv_iconst (v := (nI 0)) hx hb dL_refused_95 (by decide) ?_
            have hz : bq (nI 0) = true := by decide
            obtain rfl := Option.some.inj hM
            exact hfin 96 _ _ _ dL_refused_96 hz hP hD hS
          · have hM := if_t hM c_65
            refine lv_iload_n hx hb dL_refused_68 rfl (lv_at hl 1 rfl) ?_
            refine lv_iconst (v := (nI 1)) hx hb dL_refused_69 (by decide) ?_
            refine lv_icmp_le (tgt := 97) hx hb dL_refused_70 (by decide) (fun c_70 => ?_) (fun c_70 => ?_)
            · have hM := if_t hM c_70
              exact hT_97 q_11.1 q_6.1 q_1.1 q_61.2 hM _ _ _ hP hD hS (lv_sub hl [0, 1, 2, 3] rfl)
            · have hM := if_f hM c_70
              refine lv_aload_n hx hb dL_refused_73 rfl (lv_at hl 3 rfl) ?_
              refine lv_iconst (v := (nI 0)) hx hb dL_refused_74 (by decide) ?_
              refine lv_iconst (v := (nI 1)) hx hb dL_refused_75 (by decide) ?_
              refine lv_iconst (v := (nI 0)) hx hb dL_refused_76 (by decide) ?_
              obtain ⟨q_77, hc_77, hM⟩ := bd_some hM
              refine w_callV cx hP hD hS hA (co_addEdge g l h_p1 al_h_p1 (nI 0) (nI 1) (nI 0) q_61.2 hc_77) (blk 0 127) pf_C ob_nd (obx_f rfl) (OB g h_p1 al_h_p1 q_77.2 ++ []) pf_S 0 8 rfl rfl yq_X8_addEdge rfl m_231 m_232 m_233 m_17 m_234 ⟨Nat.le_of_ble_eq_true rfl, Nat.le_of_ble_eq_true rfl⟩ rfl rfl hl.1 (Nat.le_of_ble_eq_true rfl) dL_refused_77 ⟨Nat.le_refl 0, Nat.le_refl 0⟩ rfl (fun H locs hP hD hS => ?_)
              refine lv_iconst (v := (nI 4294967295)) hx hb dL_refused_80 (by decide) ?_
              refine lv_icmp_ne (tgt := 95) hx hb dL_refused_81 (by decide) (fun c_81 => ?_) (fun c_81 => ?_)
              · have hM := if_f hM c_81
                refine lv_iconst (v := (nI 0)) hx hb dL_refused_95 (by decide) ?_
                have hz : bq (nI 0) = true := by decide
                obtain rfl := Option.some.inj hM
                exact hfin 96 _ _ _ dL_refused_96 hz hP hD hS
              · have hM := if_t hM c_81
                refine lv_aload_n hx hb dL_refused_84 rfl (lv_at hl 3 rfl) ?_
                refine lv_iconst (v := (nI 1)) hx hb dL_refused_85 (by decide) ?_
                refine lv_iconst (v := (nI 0)) hx hb dL_refused_86 (by decide) ?_
                refine lv_iconst (v := (nI 2)) hx hb dL_refused_87 (by decide) ?_
                obtain ⟨q_88, hc_88, hM⟩ := bd_some hM
                refine w_callV cx hP hD hS hA (co_addEdge g l h_p1 al_h_p1 (nI 1) (nI 0) (nI 2) q_77.2 hc_88) (blk 0 127) pf_C ob_nd (obx_f rfl) (OB g h_p1 al_h_p1 q_88.2 ++ []) pf_S 0 8 rfl rfl yq_X8_addEdge rfl m_231 m_232 m_233 m_17 m_234 ⟨Nat.le_of_ble_eq_true rfl, Nat.le_of_ble_eq_true rfl⟩ rfl rfl hl.1 (Nat.le_of_ble_eq_true rfl) dL_refused_88 ⟨Nat.le_refl 0, Nat.le_refl 0⟩ rfl (fun H locs hP hD hS => ?_)
                refine lv_iconst (v := (nI 4294967295)) hx hb dL_refused_91 (by decide) ?_
                refine lv_icmp_eq (tgt := 97) hx hb dL_refused_92 (by decide) (fun c_92 => ?_) (fun c_92 => ?_)
                · have hM := if_t hM c_92
                  exact hT_97 q_11.1 q_6.1 q_1.1 q_88.2 hM _ _ _ hP hD hS (lv_sub hl [0, 1, 2, 3] rfl)
                · have hM := if_f hM c_92
                  refine lv_iconst (v := (nI 0)) hx hb dL_refused_95 (by decide) ?_
                  have hz : bq (nI 0) = true := by decide
                  obtain rfl := Option.some.inj hM
                  exact hfin 96 _ _ _ dL_refused_96 hz hP hD hS
