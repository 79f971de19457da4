noncomputable def f_J6_bitCount_0f7a4 (p1 : Int32) : Option (Int32) :=
  nm (((p1.toUInt32 >>> ((nI 1).toUInt32 &&& Int32.toUInt32 31)).toInt32) &&& (1431655765 : Int32)) (fun (y_7 : Int32) => nm (p1 - y_7) (fun (x_9 : Int32) => nm (x_9 &&& (858993459 : Int32)) (fun (y_14 : Int32) => nm (((x_9.toUInt32 >>> ((nI 2).toUInt32 &&& Int32.toUInt32 31)).toInt32) &&& (858993459 : Int32)) (fun (y_21 : Int32) => nm (y_14 + y_21) (fun (x_23 : Int32) => nm ((x_23 + ((x_23.toUInt32 >>> ((nI 4).toUInt32 &&& Int32.toUInt32 31)).toInt32)) &&& (252645135 : Int32)) (fun (y_32 : Int32) => nm (y_32 + ((y_32.toUInt32 >>> ((nI 8).toUInt32 &&& Int32.toUInt32 31)).toInt32)) (fun (x_40 : Int32) => nm (x_40 + ((x_40.toUInt32 >>> ((nI 16).toUInt32 &&& Int32.toUInt32 31)).toInt32)) (fun (x_47 : Int32) => some (x_47 &&& (nI 63))))))))))
theorem yq_J6_bitCount_0f7a4 : yq yJ6_bitCount_0f7a4 1 := by unfold yq; decide +kernel
set_option maxHeartbeats 4000000 in
set_option maxRecDepth 100000 in
theorem c_J6_bitCount_0f7a4 (g : GG) (l : Launch) (p1 : Int32) {R : Int32} (hM : f_J6_bitCount_0f7a4 p1 = some R) : CT g l yJ6_bitCount_0f7a4 cJ6_bitCount_0f7a4 1 (some .int) 0 0 [.int p1] [] [] (some (.int R)) := by
  refine ct_i (by decide +kernel) (Nat.le_of_ble_eq_true rfl) ?_
  intro p e s m args below meth c Q A ls cx hP hD hA hl hfin
  obtain ⟨hx, hb, hml, hown, hts, hK⟩ := id cx
  have hl : lv_has ls 1 [(0, .int p1)] := hl
  have hS : va_S A s.heap s.heap [] := va_S.rf
  refine lv_iload_n hx hb dJ6_bitCount_0f7a4_0 rfl (lv_at hl 0 rfl) ?_
  refine lv_iload_n hx hb dJ6_bitCount_0f7a4_1 rfl (lv_at hl 0 rfl) ?_
  refine lv_iconst (v := (nI 1)) hx hb dJ6_bitCount_0f7a4_2 (by decide) ?_
  refine lv_iushr (v := (p1.toUInt32 >>> ((nI 1).toUInt32 &&& Int32.toUInt32 31)).toInt32) hx hb dJ6_bitCount_0f7a4_3 rfl ?_
  refine lv_ldcw hx hb hown (hts _ m_533) dJ6_bitCount_0f7a4_4 ?_
  refine lv_iand hx hb dJ6_bitCount_0f7a4_7 ?_
  refine lv_topi (fun y_7 ey_7 => ?_)
  have hM := nm_some hM y_7 ey_7
  refine lv_isub hx hb dJ6_bitCount_0f7a4_8 ?_
  refine lv_topi (fun x_9 ex_9 => ?_)
  have hM := nm_some hM x_9 ex_9
  refine lv_istore_n (lv' := [(0, .int x_9)]) hx hb dJ6_bitCount_0f7a4_9 rfl hl (by decide) rfl (fun ls hl => ?_)
  refine lv_iload_n hx hb dJ6_bitCount_0f7a4_10 rfl (lv_at hl 0 rfl) ?_
  refine lv_ldcw hx hb hown (hts _ m_534) dJ6_bitCount_0f7a4_11 ?_
  refine lv_iand hx hb dJ6_bitCount_0f7a4_14 ?_
  refine lv_topi (fun y_14 ey_14 => ?_)
  have hM := nm_some hM y_14 ey_14
  refine lv_iload_n hx hb dJ6_bitCount_0f7a4_15 rfl (lv_at hl 0 rfl) ?_
  refine lv_iconst (v := (nI 2)) hx hb dJ6_bitCount_0f7a4_16 (by decide) ?_
  refine lv_iushr (v := (x_9.toUInt32 >>> ((nI 2).toUInt32 &&& Int32.toUInt32 31)).toInt32) hx hb dJ6_bitCount_0f7a4_17 rfl ?_
  refine lv_ldcw hx hb hown (hts _ m_534) dJ6_bitCount_0f7a4_18 ?_
  refine lv_iand hx hb dJ6_bitCount_0f7a4_21 ?_
  refine lv_topi (fun y_21 ey_21 => ?_)
  have hM := nm_some hM y_21 ey_21
  refine lv_iadd hx hb dJ6_bitCount_0f7a4_22 ?_
  refine lv_topi (fun x_23 ex_23 => ?_)
  have hM := nm_some hM x_23 ex_23
  refine lv_istore_n (lv' := [(0, .int x_23)]) hx hb dJ6_bitCount_0f7a4_23 rfl hl (by decide) rfl (fun ls hl => ?_)
  refine lv_iload_n hx hb dJ6_bitCount_0f7a4_24 rfl (lv_at hl 0 rfl) ?_
  refine lv_iload_n hx hb dJ6_bitCount_0f7a4_25 rfl (lv_at hl 0 rfl) ?_
  refine lv_iconst (v := (nI 4)) hx hb dJ6_bitCount_0f7a4_26 (by decide) ?_
  refine lv_iushr (v := (x_23.toUInt32 >>> ((nI 4).toUInt32 &&& Int32.toUInt32 31)).toInt32) hx hb dJ6_bitCount_0f7a4_27 rfl ?_
  refine lv_iadd hx hb dJ6_bitCount_0f7a4_28 ?_
  refine lv_ldcw hx hb hown (hts _ m_535) dJ6_bitCount_0f7a4_29 ?_
  refine lv_iand hx hb dJ6_bitCount_0f7a4_32 ?_
  refine lv_topi (fun y_32 ey_32 => ?_)
  have hM := nm_some hM y_32 ey_32
  refine lv_istore_n (lv' := [(0, .int y_32)]) hx hb dJ6_bitCount_0f7a4_33 rfl hl (by decide) rfl (fun ls hl => ?_)
  refine lv_iload_n hx hb dJ6_bitCount_0f7a4_34 rfl (lv_at hl 0 rfl) ?_
  refine lv_iload_n hx hb dJ6_bitCount_0f7a4_35 rfl (lv_at hl 0 rfl) ?_
  refine lv_bipush (v := (nI 8)) hx hb dJ6_bitCount_0f7a4_36 (by decide) ?_
  refine lv_iushr (v := (y_32.toUInt32 >>> ((nI 8).toUInt32 &&& Int32.toUInt32 31)).toInt32) hx hb dJ6_bitCount_0f7a4_38 rfl ?_
  refine lv_iadd hx hb dJ6_bitCount_0f7a4_39 ?_
  refine lv_topi (fun x_40 ex_40 => ?_)
  have hM := nm_some hM x_40 ex_40
  refine lv_istore_n (lv' := [(0, .int x_40)]) hx hb dJ6_bitCount_0f7a4_40 rfl hl (by decide) rfl (fun ls hl => ?_)
  refine lv_iload_n hx hb dJ6_bitCount_0f7a4_41 rfl (lv_at hl 0 rfl) ?_
  refine lv_iload_n hx hb dJ6_bitCount_0f7a4_42 rfl (lv_at hl 0 rfl) ?_
  refine lv_bipush (v := (nI 16)) hx hb dJ6_bitCount_0f7a4_43 (by decide) ?_
  refine lv_iushr (v := (x_40.toUInt32 >>> ((nI 16).toUInt32 &&& Int32.toUInt32 31)).toInt32) hx hb dJ6_bitCount_0f7a4_45 rfl ?_
  refine lv_iadd hx hb dJ6_bitCount_0f7a4_46 ?_
  refine lv_topi (fun x_47 ex_47 => ?_)
  have hM := nm_some hM x_47 ex_47
  refine lv_istore_n (lv' := [(0, .int x_47)]) hx hb dJ6_bitCount_0f7a4_47 rfl hl (by decide) rfl (fun ls hl => ?_)
  refine lv_iload_n hx hb dJ6_bitCount_0f7a4_48 rfl (lv_at hl 0 rfl) ?_
  refine lv_bipush (v := (nI 63)) hx hb dJ6_bitCount_0f7a4_49 (by decide) ?_
  refine lv_iand hx hb dJ6_bitCount_0f7a4_51 ?_
  obtain rfl := Option.some.inj hM
  exact hfin 52 _ _ _ dJ6_bitCount_0f7a4_52 hP hD hS
noncomputable def b_J7_fill_d0a16_6 (p2 : Int64) (n_p1 : Nat) (x_4 : Int32) : Int32 × (Nat → Int64) → Option ((Int32 × (Nat → Int64)) ⊕ ((Nat → Int64))) := fun z_6 =>
  if x_4 ≤ z_6.1 then some (.inr z_6.2) else gd (inb z_6.1 n_p1) (some (.inl (z_6.1 + (nI 1), vp_updL z_6.2 z_6.1.toNatClampNeg p2)))
noncomputable def f_J7_fill_d0a16 (p2 : Int64) (n_p1 : Nat) (a_p1 : Nat → Int64) : Option (Nat → Int64) :=
  nm (nI n_p1) (fun (x_4 : Int32) => bd (wh (b_J7_fill_d0a16_6 p2 n_p1 x_4) ((nI 0), a_p1)) (fun (r_6 : Nat → Int64) => some r_6))
theorem yq_J7_fill_d0a16 : yq yJ7_fill_d0a16 2 := by unfold yq; decide +kernel
set_option maxHeartbeats 4000000 in
set_option maxRecDepth 100000 in
theorem c_J7_fill_d0a16 (g : GG) (l : Launch) (h_p1 : Nat) (p2 : Int64) (n_p1 : Nat) (a_p1 : Nat → Int64) {R : Nat → Int64} (hM : f_J7_fill_d0a16 p2 n_p1 a_p1 = some R) : CT g l yJ7_fill_d0a16 cJ7_fill_d0a16 5 none 0 0 [.ref h_p1, .long p2] [aJ g h_p1 n_p1 a_p1] [aJ g h_p1 n_p1 R] none := by
  refine ct_v (by decide +kernel) (Nat.le_of_ble_eq_true rfl) ?_
  intro p e s m args below meth c Q A ls cx hP hD hA hl hfin
  obtain ⟨hx, hb, hml, hown, hts, hK⟩ := id cx
  have hl : lv_has ls 5 [(0, .ref h_p1), (1, .long p2)] := hl
  have hS : va_S A s.heap s.heap [] := va_S.rf
  refine lv_iconst (v := (nI 0)) hx hb dJ7_fill_d0a16_0 (by decide) ?_
  refine lv_istore_n (lv' := [(3, .int (nI 0)), (0, .ref h_p1), (1, .long p2)]) hx hb dJ7_fill_d0a16_1 rfl hl (by decide) rfl (fun ls hl => ?_)
  refine lv_aload_n hx hb dJ7_fill_d0a16_2 rfl (lv_at hl 1 rfl) ?_
  refine w_alen cx hP 0 rfl dJ7_fill_d0a16_3 ?_
  refine lv_topi (fun x_4 ex_4 => ?_)
  have hM := nm_some hM x_4 ex_4
  refine lv_istore (lv' := [(4, .int x_4), (3, .int (nI 0)), (0, .ref h_p1), (1, .long p2)]) hx hb dJ7_fill_d0a16_4 hl (by decide) rfl (fun ls hl => ?_)
  obtain ⟨r_6, hw, hM⟩ := bd_some hM
  obtain ⟨n, hn⟩ := wh_some hw
  clear hw
  have hE_6_0 : ∀ (H : Heap) (locs : List Loc) (ls : Array Slot), va_P (gD g) vwCl [aJ g h_p1 n_p1 r_6] H → va_D A [aJ g h_p1 n_p1 r_6] → va_S A s.heap H locs → lv_has ls 5 [] → W p l e (rmv 0 0) s m args below meth c H locs 0 0 Q (F0 m 22 ls []) := by
    intro H locs ls hP hD hS hl
    obtain rfl := Option.some.inj hM
    exact hfin 22 _ _ _ dJ7_fill_d0a16_22 hP hD hS
  clear hM
  have hL_6 : ∀ (n : Nat) (z_6 : Int32 × (Nat → Int64)), it (b_J7_fill_d0a16_6 p2 n_p1 x_4) n z_6 = some r_6 → ∀ (H : Heap) (locs : List Loc) (ls : Array Slot), va_P (gD g) vwCl [aJ g h_p1 n_p1 z_6.2] H → va_D A [aJ g h_p1 n_p1 z_6.2] → va_S A s.heap H locs → lv_has ls 5 [(4, .int x_4), (3, .int z_6.1), (0, .ref h_p1), (1, .long p2)] → W p l e (rmv 0 0) s m args below meth c H locs 0 0 Q (F0 m 6 ls []) := by
    intro n
    induction n with
    | zero => intro z_6 hn; exact (it_zero hn).elim
    | succ n ih =>
      intro z_6 hn H locs ls hP hD hS hl
      obtain ⟨x, hM, hX⟩ := it_succ hn
      clear hn
      refine lv_iload_n hx hb dJ7_fill_d0a16_6 rfl (lv_at hl 1 rfl) ?_
      refine lv_iload hx hb dJ7_fill_d0a16_7 (lv_at hl 0 rfl) ?_
      refine lv_icmp_ge (tgt := 22) hx hb dJ7_fill_d0a16_9 (by decide) (fun c_9 => ?_) (fun c_9 => ?_)
      · have hM := if_t hM c_9
        obtain rfl := Option.some.inj hM
        obtain rfl : _ = r_6 := hX
        exact hE_6_0 _ _ _ hP hD hS (lv_sub hl [] rfl)
      · have hM := if_f hM c_9
        refine lv_aload_n hx hb dJ7_fill_d0a16_12 rfl (lv_at hl 2 rfl) ?_
        refine lv_iload_n hx hb dJ7_fill_d0a16_13 rfl (lv_at hl 1 rfl) ?_
        refine lv_lload_n hx hb dJ7_fill_d0a16_14 rfl (lv_at hl 3 rfl) ?_
        obtain ⟨g_15, hM⟩ := gd_some hM
        refine w_last cx hP hD hS 0 rfl g_15 dJ7_fill_d0a16_15 [aJ g h_p1 n_p1 (vp_updL z_6.2 z_6.1.toNatClampNeg p2)] rfl (fun H locs hP hD hS => ?_)
        refine lv_iinc (v := z_6.1 + (nI 1)) (lv' := [(3, .int (z_6.1 + (nI 1))), (4, .int x_4), (0, .ref h_p1), (1, .long p2)]) hx hb dJ7_fill_d0a16_16 hl (k := 1) rfl (congrArg (fun q => z_6.1 + q) (show Int32.ofInt (1) = (nI 1) by decide)) (by decide) rfl (fun ls hl => ?_)
        refine lv_goto (tgt := 6) hx hb dJ7_fill_d0a16_19 (by decide) ?_
        obtain rfl := Option.some.inj hM
        exact ih _ hX _ _ _ hP hD hS (lv_sub hl [1, 0, 2, 3] rfl)
  exact hL_6 n _ hn _ _ _ hP hD hS (lv_sub hl [0, 1, 2, 3] rfl)
noncomputable def b_X3_separate_2 : Int32 × (Nat → Int32) × (Nat → Int32) → Option ((Int32 × (Nat → Int32) × (Nat → Int32)) ⊕ (((Nat → Int32) × (Nat → Int32)))) := fun z_2 =>
  if (nI 6) ≤ z_2.1 then some (.inr (z_2.2.1, z_2.2.2)) else gd (inb z_2.1 6) (gd (inb z_2.1 6) (some (.inl (z_2.1 + (nI 1), upd z_2.2.1 z_2.1.toNatClampNeg z_2.1, upd z_2.2.2 z_2.1.toNatClampNeg (nI 0)))))
noncomputable def f_X3_separate (a_t_groups : Nat → Int32) (a_t_sides : Nat → Int32) : Option ((Nat → Int32) × (Nat → Int32)) :=
  bd (wh b_X3_separate_2 ((nI 0), a_t_groups, a_t_sides)) (fun (r_2 : (Nat → Int32) × (Nat → Int32)) => some (r_2.1, r_2.2))
theorem yq_X3_separate : yq yX3_separate 0 := by unfold yq; decide +kernel
set_option maxHeartbeats 4000000 in
set_option maxRecDepth 100000 in
theorem c_X3_separate (g : GG) (l : Launch) (h_t : Nat) (h_t_groups : Nat) (h_t_sides : Nat) (a_t_groups : Nat → Int32) (a_t_sides : Nat → Int32) {R : (Nat → Int32) × (Nat → Int32)} (hM : f_X3_separate a_t_groups a_t_sides = some R) : CT g l yX3_separate cX3_separate 2 none 0 0 [.ref h_t] [ob h_t 3 [.ref h_t_groups, .ref h_t_sides], aI g h_t_groups 6 a_t_groups, aI g h_t_sides 6 a_t_sides] [ob h_t 3 [.ref h_t_groups, .ref h_t_sides], aI g h_t_groups 6 R.1, aI g h_t_sides 6 R.2] none := by
  refine ct_v (by decide +kernel) (Nat.le_of_ble_eq_true rfl) ?_
  intro p e s m args below meth c Q A ls cx hP hD hA hl hfin
  obtain ⟨hx, hb, hml, hown, hts, hK⟩ := id cx
  have hl : lv_has ls 2 [(0, .ref h_t)] := hl
  have hS : va_S A s.heap s.heap [] := va_S.rf
  refine lv_iconst (v := (nI 0)) hx hb dX3_separate_0 (by decide) ?_
  refine lv_istore_n (lv' := [(1, .int (nI 0)), (0, .ref h_t)]) hx hb dX3_separate_1 rfl hl (by decide) rfl (fun ls hl => ?_)
  obtain ⟨r_2, hw, hM⟩ := bd_some hM
  obtain ⟨n, hn⟩ := wh_some hw
  clear hw
  have hE_2_0 : ∀ (H : Heap) (locs : List Loc) (ls : Array Slot), va_P (gD g) vwCl [ob h_t 3 [.ref h_t_groups, .ref h_t_sides], aI g h_t_groups 6 r_2.1, aI g h_t_sides 6 r_2.2] H → va_D A [ob h_t 3 [.ref h_t_groups, .ref h_t_sides], aI g h_t_groups 6 r_2.1, aI g h_t_sides 6 r_2.2] → va_S A s.heap H locs → lv_has ls 2 [] → W p l e (rmv 0 0) s m args below meth c H locs 0 0 Q (F0 m 28 ls []) := by
    intro H locs ls hP hD hS hl
    obtain rfl := Option.some.inj hM
    exact hfin 28 _ _ _ dX3_separate_28 hP hD hS
  clear hM
  have hL_2 : ∀ (n : Nat) (z_2 : Int32 × (Nat → Int32) × (Nat → Int32)), it b_X3_separate_2 n z_2 = some r_2 → ∀ (H : Heap) (locs : List Loc) (ls : Array Slot), va_P (gD g) vwCl [ob h_t 3 [.ref h_t_groups, .ref h_t_sides], aI g h_t_groups 6 z_2.2.1, aI g h_t_sides 6 z_2.2.2] H → va_D A [ob h_t 3 [.ref h_t_groups, .ref h_t_sides], aI g h_t_groups 6 z_2.2.1, aI g h_t_sides 6 z_2.2.2] → va_S A s.heap H locs → lv_has ls 2 [(1, .int z_2.1), (0, .ref h_t)] → W p l e (rmv 0 0) s m args below meth c H locs 0 0 Q (F0 m 2 ls []) := by
    intro n
    induction n with
    | zero => intro z_2 hn; exact (it_zero hn).elim
    | succ n ih =>
      intro z_2 hn H locs ls hP hD hS hl
      obtain ⟨x, hM, hX⟩ := it_succ hn
      clear hn
      refine lv_iload_n hx hb dX3_separate_2 rfl (lv_at hl 0 rfl) ?_
      refine lv_bipush (v := (nI 6)) hx hb dX3_separate_3 (by decide) ?_
      refine lv_icmp_ge (tgt := 28) hx hb dX3_separate_5 (by decide) (fun c_5 => ?_) (fun c_5 => ?_)
      · have hM := if_t hM c_5
        obtain rfl := Option.some.inj hM
        obtain rfl : _ = r_2 := hX
        exact hE_2_0 _ _ _ hP hD hS (lv_sub hl [] rfl)
      · have hM := if_f hM c_5
        refine lv_aload_n hx hb dX3_separate_8 rfl (lv_at hl 1 rfl) ?_
        refine w_get cx hP 0 3 0 rfl rfl (by decide) m_122 rfl rfl dX3_separate_9 ?_
        refine lv_iload_n hx hb dX3_separate_12 rfl (lv_at hl 0 rfl) ?_
        refine lv_iload_n hx hb dX3_separate_13 rfl (lv_at hl 0 rfl) ?_
        obtain ⟨g_14, hM⟩ := gd_some hM
        refine w_iast cx hP hD hS 1 rfl g_14 dX3_separate_14 [ob h_t 3 [.ref h_t_groups, .ref h_t_sides], aI g h_t_groups 6 (upd z_2.2.1 z_2.1.toNatClampNeg z_2.1), aI g h_t_sides 6 z_2.2.2] rfl (fun H locs hP hD hS => ?_)
        refine lv_aload_n hx hb dX3_separate_15 rfl (lv_at hl 1 rfl) ?_
        refine w_get cx hP 0 3 1 rfl rfl (by decide) m_123 rfl rfl dX3_separate_16 ?_
        refine lv_iload_n hx hb dX3_separate_19 rfl (lv_at hl 0 rfl) ?_
        refine lv_iconst (v := (nI 0)) hx hb dX3_separate_20 (by decide) ?_
        obtain ⟨g_21, hM⟩ := gd_some hM
        refine w_iast cx hP hD hS 2 rfl g_21 dX3_separate_21 [ob h_t 3 [.ref h_t_groups, .ref h_t_sides], aI g h_t_groups 6 (upd z_2.2.1 z_2.1.toNatClampNeg z_2.1), aI g h_t_sides 6 (upd z_2.2.2 z_2.1.toNatClampNeg (nI 0))] rfl (fun H locs hP hD hS => ?_)
        refine lv_iinc (v := z_2.1 + (nI 1)) (lv' := [(1, .int (z_2.1 + (nI 1))), (0, .ref h_t)]) hx hb dX3_separate_22 hl (k := 0) rfl (congrArg (fun q => z_2.1 + q) (show Int32.ofInt (1) = (nI 1) by decide)) (by decide) rfl (fun ls hl => ?_)
        refine lv_goto (tgt := 2) hx hb dX3_separate_25 (by decide) ?_
        obtain rfl := Option.some.inj hM
        exact ih _ hX _ _ _ hP hD hS (lv_sub hl [0, 1] rfl)
  exact hL_2 n _ hn _ _ _ hP hD hS (lv_sub hl [0, 1] rfl)
noncomputable def f_X3_turnFor (p2 : Int32) (a_t_sides : Nat → Int32) (p1_vertices : Int32) (p1_edges : Int32) (a_p1_firsts : Nat → Int32) (a_p1_seconds : Nat → Int32) (a_p1_signs : Nat → Int32) : Option (Int32) :=
  gd (inb p2 9) (bd (if (a_p1_signs p2.toNatClampNeg) = (nI 4294967295) then some (nI 1) else some (nI 0)) (fun (j_7 : Int32) => gd (inb p2 9) (gd (inb (a_p1_firsts p2.toNatClampNeg) 6) (gd (inb p2 9) (gd (inb (a_p1_seconds p2.toNatClampNeg) 6) (some (((a_t_sides (a_p1_firsts p2.toNatClampNeg).toNatClampNeg) ^^^ (a_t_sides (a_p1_seconds p2.toNatClampNeg).toNatClampNeg)) ^^^ j_7)))))))
theorem yq_X3_turnFor : yq yX3_turnFor 2 := by unfold yq; decide +kernel
set_option maxHeartbeats 4000000 in
set_option maxRecDepth 100000 in
theorem c_X3_turnFor (g : GG) (l : Launch) (h_t : Nat) (h_t_groups : Nat) (h_t_sides : Nat) (h_p1 : Nat) (h_p1_firsts : Nat) (h_p1_seconds : Nat) (h_p1_signs : Nat) (p2 : Int32) (a_t_sides : Nat → Int32) (p1_vertices : Int32) (p1_edges : Int32) (a_p1_firsts : Nat → Int32) (a_p1_seconds : Nat → Int32) (a_p1_signs : Nat → Int32) {R : Int32} (hM : f_X3_turnFor p2 a_t_sides p1_vertices p1_edges a_p1_firsts a_p1_seconds a_p1_signs = some R) : CT g l yX3_turnFor cX3_turnFor 4 (some .int) 0 0 [.ref h_t, .ref h_p1, .int p2] [ob h_t 3 [.ref h_t_groups, .ref h_t_sides], aI g h_t_sides 6 a_t_sides, ob h_p1 2 [.int p1_vertices, .int p1_edges, .ref h_p1_firsts, .ref h_p1_seconds, .ref h_p1_signs], aI g h_p1_firsts 9 a_p1_firsts, aI g h_p1_seconds 9 a_p1_seconds, aI g h_p1_signs 9 a_p1_signs] [ob h_t 3 [.ref h_t_groups, .ref h_t_sides], aI g h_t_sides 6 a_t_sides, ob h_p1 2 [.int p1_vertices, .int p1_edges, .ref h_p1_firsts, .ref h_p1_seconds, .ref h_p1_signs], aI g h_p1_firsts 9 a_p1_firsts, aI g h_p1_seconds 9 a_p1_seconds, aI g h_p1_signs 9 a_p1_signs] (some (.int R)) := by
  refine ct_i (by decide +kernel) (Nat.le_of_ble_eq_true rfl) ?_
  intro p e s m args below meth c Q A ls cx hP hD hA hl hfin
  obtain ⟨hx, hb, hml, hown, hts, hK⟩ := id cx
  have hl : lv_has ls 4 [(0, .ref h_t), (1, .ref h_p1), (2, .int p2)] := hl
  have hS : va_S A s.heap s.heap [] := va_S.rf
  refine lv_aload_n hx hb dX3_turnFor_0 rfl (lv_at hl 1 rfl) ?_
  refine w_getN cx hP 2 2 4 rfl rfl (by decide) n_60 rfl rfl dX3_turnFor_1 ?_
  refine lv_iload_n hx hb dX3_turnFor_4 rfl (lv_at hl 2 rfl) ?_
  obtain ⟨g_5, hM⟩ := gd_some hM
  refine w_iald cx hP 5 rfl g_5 dX3_turnFor_5 ?_
  refine lv_iconst (v := (nI 4294967295)) hx hb dX3_turnFor_6 (by decide) ?_
  obtain ⟨j_7, hB, hM⟩ := bd_some hM
  have hJ_7 : ∀ (H : Heap) (locs : List Loc) (ls : Array Slot), va_P (gD g) vwCl [ob h_t 3 [.ref h_t_groups, .ref h_t_sides], aI g h_t_sides 6 a_t_sides, ob h_p1 2 [.int p1_vertices, .int p1_edges, .ref h_p1_firsts, .ref h_p1_seconds, .ref h_p1_signs], aI g h_p1_firsts 9 a_p1_firsts, aI g h_p1_seconds 9 a_p1_seconds, aI g h_p1_signs 9 a_p1_signs] H → va_D A [ob h_t 3 [.ref h_t_groups, .ref h_t_sides], aI g h_t_sides 6 a_t_sides, ob h_p1 2 [.int p1_vertices, .int p1_edges, .ref h_p1_firsts, .ref h_p1_seconds, .ref h_p1_signs], aI g h_p1_firsts 9 a_p1_firsts, aI g h_p1_seconds 9 a_p1_seconds, aI g h_p1_signs 9 a_p1_signs] → va_S A s.heap H locs → lv_has ls 4 [(0, .ref h_t), (1, .ref h_p1), (2, .int p2)] → W p l e (rmv 0 0) s m args below meth c H locs 0 0 Q (F0 m 15 ls [.int j_7]) := by
    intro H locs ls hP hD hS hl
    refine lv_istore_n (lv' := [(3, .int j_7), (0, .ref h_t), (1, .ref h_p1), (2, .int p2)]) hx hb dX3_turnFor_15 rfl hl (by decide) rfl (fun ls hl => ?_)
    refine lv_aload_n hx hb dX3_turnFor_16 rfl (lv_at hl 1 rfl) ?_
    refine w_get cx hP 0 3 1 rfl rfl (by decide) m_123 rfl rfl dX3_turnFor_17 ?_
    refine lv_aload_n hx hb dX3_turnFor_20 rfl (lv_at hl 2 rfl) ?_
    refine w_getN cx hP 2 2 2 rfl rfl (by decide) n_53 rfl rfl dX3_turnFor_21 ?_
    refine lv_iload_n hx hb dX3_turnFor_24 rfl (lv_at hl 3 rfl) ?_
    obtain ⟨g_25, hM⟩ := gd_some hM
    refine w_iald cx hP 3 rfl g_25 dX3_turnFor_25 ?_
    obtain ⟨g_26, hM⟩ := gd_some hM
    refine w_iald cx hP 1 rfl g_26 dX3_turnFor_26 ?_
    refine lv_aload_n hx hb dX3_turnFor_27 rfl (lv_at hl 1 rfl) ?_
    refine w_get cx hP 0 3 1 rfl rfl (by decide) m_123 rfl rfl dX3_turnFor_28 ?_
    refine lv_aload_n hx hb dX3_turnFor_31 rfl (lv_at hl 2 rfl) ?_
    refine w_getN cx hP 2 2 3 rfl rfl (by decide) n_55 rfl rfl dX3_turnFor_32 ?_
    refine lv_iload_n hx hb dX3_turnFor_35 rfl (lv_at hl 3 rfl) ?_
    obtain ⟨g_36, hM⟩ := gd_some hM
    refine w_iald cx hP 4 rfl g_36 dX3_turnFor_36 ?_
    obtain ⟨g_37, hM⟩ := gd_some hM
    refine w_iald cx hP 1 rfl g_37 dX3_turnFor_37 ?_
    refine lv_ixor hx hb dX3_turnFor_38 ?_
    refine lv_iload_n hx hb dX3_turnFor_39 rfl (lv_at hl 0 rfl) ?_
    refine lv_ixor hx hb dX3_turnFor_40 ?_
    obtain rfl := Option.some.inj hM
    exact hfin 41 _ _ _ dX3_turnFor_41 hP hD hS
  clear hM
  have hM := hB
  clear hB
  refine lv_icmp_ne (tgt := 14) hx hb dX3_turnFor_7 (by decide) (fun c_7 => ?_) (fun c_7 => ?_)
  · have hM := if_f hM c_7
    refine lv_iconst (v := (nI 0)) hx hb dX3_turnFor_14 (by decide) ?_
    obtain rfl := Option.some.inj hM
    exact hJ_7 _ _ _ hP hD hS (lv_sub hl [0, 1, 2] rfl)
  · have hM := if_t hM c_7
    refine lv_iconst (v := (nI 1)) hx hb dX3_turnFor_10 (by decide) ?_
    refine lv_goto (tgt := 15) hx hb dX3_turnFor_11 (by decide) ?_
    obtain rfl := Option.some.inj hM
    exact hJ_7 _ _ _ hP hD hS (lv_sub hl [0, 1, 2] rfl)
noncomputable def b_X3_unite_44 (x_11 : Int32) (x_23 : Int32) (q_36 : Int32) : Int32 × (Nat → Int32) × (Nat → Int32) → Option ((Int32 × (Nat → Int32) × (Nat → Int32)) ⊕ (((Nat → Int32) × (Nat → Int32)))) := fun z_44 =>
  if (nI 6) ≤ z_44.1 then some (.inr (z_44.2.1, z_44.2.2)) else gd (inb z_44.1 6) (if (z_44.2.1 z_44.1.toNatClampNeg) = x_23 then gd (inb z_44.1 6) (gd (inb z_44.1 6) (gd (inb z_44.1 6) (some (.inl (z_44.1 + (nI 1), upd z_44.2.1 z_44.1.toNatClampNeg x_11, upd z_44.2.2 z_44.1.toNatClampNeg ((z_44.2.2 z_44.1.toNatClampNeg) ^^^ q_36)))))) else some (.inl (z_44.1 + (nI 1), z_44.2.1, z_44.2.2)))
noncomputable def f_X3_unite (p2 : Int32) (a_t_groups : Nat → Int32) (a_t_sides : Nat → Int32) (p1_vertices : Int32) (p1_edges : Int32) (a_p1_firsts : Nat → Int32) (a_p1_seconds : Nat → Int32) (a_p1_signs : Nat → Int32) : Option (Int32 × (Nat → Int32) × (Nat → Int32)) :=
  gd (inb p2 9) (gd (inb (a_p1_firsts p2.toNatClampNeg) 6) (nm (a_t_groups (a_p1_firsts p2.toNatClampNeg).toNatClampNeg) (fun (x_11 : Int32) => gd (inb p2 9) (gd (inb (a_p1_seconds p2.toNatClampNeg) 6) (nm (a_t_groups (a_p1_seconds p2.toNatClampNeg).toNatClampNeg) (fun (x_23 : Int32) => if x_11 = x_23 then some ((nI 0), a_t_groups, a_t_sides) else bd (f_X3_turnFor p2 a_t_sides p1_vertices p1_edges a_p1_firsts a_p1_seconds a_p1_signs) (fun (q_36 : Int32) => bd (wh (b_X3_unite_44 x_11 x_23 q_36) ((nI 0), a_t_groups, a_t_sides)) (fun (r_44 : (Nat → Int32) × (Nat → Int32)) => some ((nI 1), r_44.1, r_44.2)))))))))
theorem yq_X3_unite : yq yX3_unite 2 := by unfold yq; decide +kernel
set_option maxHeartbeats 4000000 in
set_option maxRecDepth 100000 in
theorem c_X3_unite (g : GG) (l : Launch) (h_t : Nat) (h_t_groups : Nat) (h_t_sides : Nat) (h_p1 : Nat) (h_p1_firsts : Nat) (h_p1_seconds : Nat) (h_p1_signs : Nat) (p2 : Int32) (a_t_groups : Nat → Int32) (a_t_sides : Nat → Int32) (p1_vertices : Int32) (p1_edges : Int32) (a_p1_firsts : Nat → Int32) (a_p1_seconds : Nat → Int32) (a_p1_signs : Nat → Int32) {R : Int32 × (Nat → Int32) × (Nat → Int32)} (hM : f_X3_unite p2 a_t_groups a_t_sides p1_vertices p1_edges a_p1_firsts a_p1_seconds a_p1_signs = some R) : CT g l yX3_unite cX3_unite 7 (some .boolean) 1 23 [.ref h_t, .ref h_p1, .int p2] [ob h_t 3 [.ref h_t_groups, .ref h_t_sides], aI g h_t_groups 6 a_t_groups, aI g h_t_sides 6 a_t_sides, ob h_p1 2 [.int p1_vertices, .int p1_edges, .ref h_p1_firsts, .ref h_p1_seconds, .ref h_p1_signs], aI g h_p1_firsts 9 a_p1_firsts, aI g h_p1_seconds 9 a_p1_seconds, aI g h_p1_signs 9 a_p1_signs] [ob h_t 3 [.ref h_t_groups, .ref h_t_sides], aI g h_t_groups 6 R.2.1, aI g h_t_sides 6 R.2.2, ob h_p1 2 [.int p1_vertices, .int p1_edges, .ref h_p1_firsts, .ref h_p1_seconds, .ref h_p1_signs], aI g h_p1_firsts 9 a_p1_firsts, aI g h_p1_seconds 9 a_p1_seconds, aI g h_p1_signs 9 a_p1_signs] (some (.int R.1)) := by
  refine ct_z (by decide +kernel) (Nat.le_of_ble_eq_true rfl) ?_
  intro p e s m args below meth c Q A ls cx hP hD hA hl hfin
  obtain ⟨hx, hb, hml, hown, hts, hK⟩ := id cx
  have hl : lv_has ls 7 [(0, .ref h_t), (1, .ref h_p1), (2, .int p2)] := hl
  have hS : va_S A s.heap s.heap [] := va_S.rf
  refine lv_aload_n hx hb dX3_unite_0 rfl (lv_at hl 0 rfl) ?_
  refine w_get cx hP 0 3 0 rfl rfl (by decide) m_122 rfl rfl dX3_unite_1 ?_
  refine lv_aload_n hx hb dX3_unite_4 rfl (lv_at hl 1 rfl) ?_
  refine w_getN cx hP 3 2 2 rfl rfl (by decide) n_53 rfl rfl dX3_unite_5 ?_
  refine lv_iload_n hx hb dX3_unite_8 rfl (lv_at hl 2 rfl) ?_
  obtain ⟨g_9, hM⟩ := gd_some hM
  refine w_iald cx hP 4 rfl g_9 dX3_unite_9 ?_
  obtain ⟨g_10, hM⟩ := gd_some hM
  refine w_iald cx hP 1 rfl g_10 dX3_unite_10 ?_
  refine lv_topi (fun x_11 ex_11 => ?_)
  have hM := nm_some hM x_11 ex_11
  refine lv_istore_n (lv' := [(3, .int x_11), (0, .ref h_t), (1, .ref h_p1), (2, .int p2)]) hx hb dX3_unite_11 rfl hl (by decide) rfl (fun ls hl => ?_)
  refine lv_aload_n hx hb dX3_unite_12 rfl (lv_at hl 1 rfl) ?_
  refine w_get cx hP 0 3 0 rfl rfl (by decide) m_122 rfl rfl dX3_unite_13 ?_
  refine lv_aload_n hx hb dX3_unite_16 rfl (lv_at hl 2 rfl) ?_
  refine w_getN cx hP 3 2 3 rfl rfl (by decide) n_55 rfl rfl dX3_unite_17 ?_
  refine lv_iload_n hx hb dX3_unite_20 rfl (lv_at hl 3 rfl) ?_
  obtain ⟨g_21, hM⟩ := gd_some hM
  refine w_iald cx hP 5 rfl g_21 dX3_unite_21 ?_
  obtain ⟨g_22, hM⟩ := gd_some hM
  refine w_iald cx hP 1 rfl g_22 dX3_unite_22 ?_
  refine lv_topi (fun x_23 ex_23 => ?_)
  have hM := nm_some hM x_23 ex_23
  refine lv_istore (lv' := [(4, .int x_23), (3, .int x_11), (0, .ref h_t), (1, .ref h_p1), (2, .int p2)]) hx hb dX3_unite_23 hl (by decide) rfl (fun ls hl => ?_)
  refine lv_iload_n hx hb dX3_unite_25 rfl (lv_at hl 1 rfl) ?_
  refine lv_iload hx hb dX3_unite_26 (lv_at hl 0 rfl) ?_
  refine lv_icmp_ne (tgt := 33) hx hb dX3_unite_28 (by decide) (fun c_28 => ?_) (fun c_28 => ?_)
  · have hM := if_f hM c_28
    refine lv_aload_n hx hb dX3_unite_33 rfl (lv_at hl 2 rfl) ?_
    refine lv_aload_n hx hb dX3_unite_34 rfl (lv_at hl 3 rfl) ?_
    refine lv_iload_n hx hb dX3_unite_35 rfl (lv_at hl 4 rfl) ?_
    obtain ⟨q_36, hc_36, hM⟩ := bd_some hM
    refine w_callV cx hP hD hS hA (c_X3_turnFor g l h_t h_t_groups h_t_sides h_p1 h_p1_firsts h_p1_seconds h_p1_signs p2 a_t_sides p1_vertices p1_edges a_p1_firsts a_p1_seconds a_p1_signs hc_36) [0, 2, 3, 4, 5, 6] rfl (by decide) rfl [ob h_t 3 [.ref h_t_groups, .ref h_t_sides], aI g h_t_groups 6 a_t_groups, aI g h_t_sides 6 a_t_sides, ob h_p1 2 [.int p1_vertices, .int p1_edges, .ref h_p1_firsts, .ref h_p1_seconds, .ref h_p1_signs], aI g h_p1_firsts 9 a_p1_firsts, aI g h_p1_seconds 9 a_p1_seconds, aI g h_p1_signs 9 a_p1_signs] rfl 0 3 rfl rfl yq_X3_turnFor rfl m_412 m_414 m_10 m_21 m_415 ⟨Nat.le_of_ble_eq_true rfl, Nat.le_of_ble_eq_true rfl⟩ rfl rfl hl.1 (Nat.le_of_ble_eq_true rfl) dX3_unite_36 ⟨Nat.le_refl 0, Nat.le_refl 0⟩ rfl (fun H locs hP hD hS => ?_)
    refine lv_istore (lv' := [(5, .int q_36), (4, .int x_23), (3, .int x_11), (0, .ref h_t), (1, .ref h_p1), (2, .int p2)]) hx hb dX3_unite_39 hl (by decide) rfl (fun ls hl => ?_)
    refine lv_iconst (v := (nI 0)) hx hb dX3_unite_41 (by decide) ?_
    refine lv_istore (lv' := [(6, .int (nI 0)), (5, .int q_36), (4, .int x_23), (3, .int x_11), (0, .ref h_t), (1, .ref h_p1), (2, .int p2)]) hx hb dX3_unite_42 hl (by decide) rfl (fun ls hl => ?_)
    obtain ⟨r_44, hw, hM⟩ := bd_some hM
    obtain ⟨n, hn⟩ := wh_some hw
    clear hw
    have hE_44_0 : ∀ (H : Heap) (locs : List Loc) (ls : Array Slot), va_P (gD g) vwCl [ob h_t 3 [.ref h_t_groups, .ref h_t_sides], aI g h_t_groups 6 r_44.1, aI g h_t_sides 6 r_44.2, ob h_p1 2 [.int p1_vertices, .int p1_edges, .ref h_p1_firsts, .ref h_p1_seconds, .ref h_p1_signs], aI g h_p1_firsts 9 a_p1_firsts, aI g h_p1_seconds 9 a_p1_seconds, aI g h_p1_signs 9 a_p1_signs] H → va_D A [ob h_t 3 [.ref h_t_groups, .ref h_t_sides], aI g h_t_groups 6 r_44.1, aI g h_t_sides 6 r_44.2, ob h_p1 2 [.int p1_vertices, .int p1_edges, .ref h_p1_firsts, .ref h_p1_seconds, .ref h_p1_signs], aI g h_p1_firsts 9 a_p1_firsts, aI g h_p1_seconds 9 a_p1_seconds, aI g h_p1_signs 9 a_p1_signs] → va_S A s.heap H locs → lv_has ls 7 [] → W p l e (rmv 1 23) s m args below meth c H locs 0 0 Q (F0 m 89 ls []) := by
      intro H locs ls hP hD hS hl
      refine lv_iconst (v := (nI 1)) hx hb dX3_unite_89 (by decide) ?_
      have hz : bq (nI 1) = true := by decide
      obtain rfl := Option.some.inj hM
      exact hfin 90 _ _ _ dX3_unite_90 hz hP hD hS
    clear hM
    have hL_44 : ∀ (n : Nat) (z_44 : Int32 × (Nat → Int32) × (Nat → Int32)), it (b_X3_unite_44 x_11 x_23 q_36) n z_44 = some r_44 → ∀ (H : Heap) (locs : List Loc) (ls : Array Slot), va_P (gD g) vwCl [ob h_t 3 [.ref h_t_groups, .ref h_t_sides], aI g h_t_groups 6 z_44.2.1, aI g h_t_sides 6 z_44.2.2, ob h_p1 2 [.int p1_vertices, .int p1_edges, .ref h_p1_firsts, .ref h_p1_seconds, .ref h_p1_signs], aI g h_p1_firsts 9 a_p1_firsts, aI g h_p1_seconds 9 a_p1_seconds, aI g h_p1_signs 9 a_p1_signs] H → va_D A [ob h_t 3 [.ref h_t_groups, .ref h_t_sides], aI g h_t_groups 6 z_44.2.1, aI g h_t_sides 6 z_44.2.2, ob h_p1 2 [.int p1_vertices, .int p1_edges, .ref h_p1_firsts, .ref h_p1_seconds, .ref h_p1_signs], aI g h_p1_firsts 9 a_p1_firsts, aI g h_p1_seconds 9 a_p1_seconds, aI g h_p1_signs 9 a_p1_signs] → va_S A s.heap H locs → lv_has ls 7 [(6, .int z_44.1), (5, .int q_36), (4, .int x_23), (3, .int x_11), (0, .ref h_t)] → W p l e (rmv 1 23) s m args below meth c H locs 0 0 Q (F0 m 44 ls []) := by
      intro n
      induction n with
      | zero => intro z_44 hn; exact (it_zero hn).elim
      | succ n ih =>
        intro z_44 hn H locs ls hP hD hS hl
        obtain ⟨x, hM, hX⟩ := it_succ hn
        clear hn
        refine lv_iload hx hb dX3_unite_44 (lv_at hl 0 rfl) ?_
        refine lv_bipush (v := (nI 6)) hx hb dX3_unite_46 (by decide) ?_
        refine lv_icmp_ge (tgt := 89) hx hb dX3_unite_48 (by decide) (fun c_48 => ?_) (fun c_48 => ?_)
        · have hM := if_t hM c_48
          obtain rfl := Option.some.inj hM
          obtain rfl : _ = r_44 := hX
          exact hE_44_0 _ _ _ hP hD hS (lv_sub hl [] rfl)
        · have hM := if_f hM c_48
          refine lv_aload_n hx hb dX3_unite_51 rfl (lv_at hl 4 rfl) ?_
          refine w_get cx hP 0 3 0 rfl rfl (by decide) m_122 rfl rfl dX3_unite_52 ?_
          refine lv_iload hx hb dX3_unite_55 (lv_at hl 0 rfl) ?_
          obtain ⟨g_57, hM⟩ := gd_some hM
          refine w_iald cx hP 1 rfl g_57 dX3_unite_57 ?_
          refine lv_iload hx hb dX3_unite_58 (lv_at hl 2 rfl) ?_
          refine lv_icmp_ne (tgt := 83) hx hb dX3_unite_60 (by decide) (fun c_60 => ?_) (fun c_60 => ?_)
          · have hM := if_f hM c_60
            refine lv_iinc (v := z_44.1 + (nI 1)) (lv' := [(6, .int (z_44.1 + (nI 1))), (5, .int q_36), (4, .int x_23), (3, .int x_11), (0, .ref h_t)]) hx hb dX3_unite_83 hl (k := 0) rfl (congrArg (fun q => z_44.1 + q) (show Int32.ofInt (1) = (nI 1) by decide)) (by decide) rfl (fun ls hl => ?_)
            refine lv_goto (tgt := 44) hx hb dX3_unite_86 (by decide) ?_
            obtain rfl := Option.some.inj hM
            exact ih _ hX _ _ _ hP hD hS (lv_sub hl [0, 1, 2, 3, 4] rfl)
          · have hM := if_t hM c_60
            refine lv_aload_n hx hb dX3_unite_63 rfl (lv_at hl 4 rfl) ?_
            refine w_get cx hP 0 3 0 rfl rfl (by decide) m_122 rfl rfl dX3_unite_64 ?_
            refine lv_iload hx hb dX3_unite_67 (lv_at hl 0 rfl) ?_
            refine lv_iload_n hx hb dX3_unite_69 rfl (lv_at hl 3 rfl) ?_
            obtain ⟨g_70, hM⟩ := gd_some hM
            refine w_iast cx hP hD hS 1 rfl g_70 dX3_unite_70 [ob h_t 3 [.ref h_t_groups, .ref h_t_sides], aI g h_t_groups 6 (upd z_44.2.1 z_44.1.toNatClampNeg x_11), aI g h_t_sides 6 z_44.2.2, ob h_p1 2 [.int p1_vertices, .int p1_edges, .ref h_p1_firsts, .ref h_p1_seconds, .ref h_p1_signs], aI g h_p1_firsts 9 a_p1_firsts, aI g h_p1_seconds 9 a_p1_seconds, aI g h_p1_signs 9 a_p1_signs] rfl (fun H locs hP hD hS => ?_)
            refine lv_aload_n hx hb dX3_unite_71 rfl (lv_at hl 4 rfl) ?_
            refine w_get cx hP 0 3 1 rfl rfl (by decide) m_123 rfl rfl dX3_unite_72 ?_
            refine lv_iload hx hb dX3_unite_75 (lv_at hl 0 rfl) ?_
            refine lv_dup2_11 hx hb dX3_unite_77 rfl rfl ?_
            obtain ⟨g_78, hM⟩ := gd_some hM
            refine w_iald cx hP 2 rfl g_78 dX3_unite_78 ?_
            refine lv_iload hx hb dX3_unite_79 (lv_at hl 1 rfl) ?_
            refine lv_ixor hx hb dX3_unite_81 ?_
            obtain ⟨g_82, hM⟩ := gd_some hM
            refine w_iast cx hP hD hS 2 rfl g_82 dX3_unite_82 [ob h_t 3 [.ref h_t_groups, .ref h_t_sides], aI g h_t_groups 6 (upd z_44.2.1 z_44.1.toNatClampNeg x_11), aI g h_t_sides 6 (upd z_44.2.2 z_44.1.toNatClampNeg ((z_44.2.2 z_44.1.toNatClampNeg) ^^^ q_36)), ob h_p1 2 [.int p1_vertices, .int p1_edges, .ref h_p1_firsts, .ref h_p1_seconds, .ref h_p1_signs], aI g h_p1_firsts 9 a_p1_firsts, aI g h_p1_seconds 9 a_p1_seconds, aI g h_p1_signs 9 a_p1_signs] rfl (fun H locs hP hD hS => ?_)
            refine lv_iinc (v := z_44.1 + (nI 1)) (lv' := [(6, .int (z_44.1 + (nI 1))), (5, .int q_36), (4, .int x_23), (3, .int x_11), (0, .ref h_t)]) hx hb dX3_unite_83 hl (k := 0) rfl (congrArg (fun q => z_44.1 + q) (show Int32.ofInt (1) = (nI 1) by decide)) (by decide) rfl (fun ls hl => ?_)
            refine lv_goto (tgt := 44) hx hb dX3_unite_86 (by decide) ?_
            obtain rfl := Option.some.inj hM
            exact ih _ hX _ _ _ hP hD hS (lv_sub hl [0, 1, 2, 3, 4] rfl)
    exact hL_44 n _ hn _ _ _ hP hD hS (lv_sub hl [0, 1, 2, 3, 4] rfl)
  · have hM := if_t hM c_28
    refine lv_iconst (v := (nI 0)) hx hb dX3_unite_31 (by decide) ?_
    have hz : bq (nI 0) = true := by decide
    obtain rfl := Option.some.inj hM
    exact hfin 32 _ _ _ dX3_unite_32 hz hP hD hS
noncomputable def b_X3_countGroups_11 (p1_vertices : Int32) (p1_edges : Int32) (a_p1_firsts : Nat → Int32) (a_p1_seconds : Nat → Int32) (a_p1_signs : Nat → Int32) : Int32 × Int32 × (Nat → Int32) × (Nat → Int32) → Option ((Int32 × Int32 × (Nat → Int32) × (Nat → Int32)) ⊕ ((Int32 × (Nat → Int32) × (Nat → Int32)))) := fun z_11 =>
  if p1_edges ≤ z_11.1 then some (.inr (z_11.2.1, z_11.2.2.1, z_11.2.2.2)) else bd (f_X3_unite z_11.1 z_11.2.2.1 z_11.2.2.2 p1_vertices p1_edges a_p1_firsts a_p1_seconds a_p1_signs) (fun (q_22 : Int32 × (Nat → Int32) × (Nat → Int32)) => if q_22.1 = 0 then some (.inl (z_11.1 + (nI 1), z_11.2.1, q_22.2.1, q_22.2.2)) else nm (z_11.2.1 + (nI 4294967295)) (fun (x_28 : Int32) => some (.inl (z_11.1 + (nI 1), x_28, q_22.2.1, q_22.2.2))))
noncomputable def f_X3_countGroups (a_t_groups : Nat → Int32) (a_t_sides : Nat → Int32) (p1_vertices : Int32) (p1_edges : Int32) (a_p1_firsts : Nat → Int32) (a_p1_seconds : Nat → Int32) (a_p1_signs : Nat → Int32) : Option (Int32 × (Nat → Int32) × (Nat → Int32)) :=
  bd (f_X3_separate a_t_groups a_t_sides) (fun (q_1 : (Nat → Int32) × (Nat → Int32)) => bd (wh (b_X3_countGroups_11 p1_vertices p1_edges a_p1_firsts a_p1_seconds a_p1_signs) ((nI 0), p1_vertices, q_1.1, q_1.2)) (fun (r_11 : Int32 × (Nat → Int32) × (Nat → Int32)) => some (r_11.1, r_11.2.1, r_11.2.2)))
theorem yq_X3_countGroups : yq yX3_countGroups 1 := by unfold yq; decide +kernel
set_option maxHeartbeats 4000000 in
set_option maxRecDepth 100000 in
theorem c_X3_countGroups (g : GG) (l : Launch) (h_t : Nat) (h_t_groups : Nat) (h_t_sides : Nat) (h_p1 : Nat) (h_p1_firsts : Nat) (h_p1_seconds : Nat) (h_p1_signs : Nat) (a_t_groups : Nat → Int32) (a_t_sides : Nat → Int32) (p1_vertices : Int32) (p1_edges : Int32) (a_p1_firsts : Nat → Int32) (a_p1_seconds : Nat → Int32) (a_p1_signs : Nat → Int32) {R : Int32 × (Nat → Int32) × (Nat → Int32)} (hM : f_X3_countGroups a_t_groups a_t_sides p1_vertices p1_edges a_p1_firsts a_p1_seconds a_p1_signs = some R) : CT g l yX3_countGroups cX3_countGroups 4 (some .int) 2 49 [.ref h_t, .ref h_p1] [ob h_t 3 [.ref h_t_groups, .ref h_t_sides], aI g h_t_groups 6 a_t_groups, aI g h_t_sides 6 a_t_sides, ob h_p1 2 [.int p1_vertices, .int p1_edges, .ref h_p1_firsts, .ref h_p1_seconds, .ref h_p1_signs], aI g h_p1_firsts 9 a_p1_firsts, aI g h_p1_seconds 9 a_p1_seconds, aI g h_p1_signs 9 a_p1_signs] [ob h_t 3 [.ref h_t_groups, .ref h_t_sides], aI g h_t_groups 6 R.2.1, aI g h_t_sides 6 R.2.2, ob h_p1 2 [.int p1_vertices, .int p1_edges, .ref h_p1_firsts, .ref h_p1_seconds, .ref h_p1_signs], aI g h_p1_firsts 9 a_p1_firsts, aI g h_p1_seconds 9 a_p1_seconds, aI g h_p1_signs 9 a_p1_signs] (some (.int R.1)) := by
  refine ct_i (by decide +kernel) (Nat.le_of_ble_eq_true rfl) ?_
  intro p e s m args below meth c Q A ls cx hP hD hA hl hfin
  obtain ⟨hx, hb, hml, hown, hts, hK⟩ := id cx
  have hl : lv_has ls 4 [(0, .ref h_t), (1, .ref h_p1)] := hl
  have hS : va_S A s.heap s.heap [] := va_S.rf
  refine lv_aload_n hx hb dX3_countGroups_0 rfl (lv_at hl 0 rfl) ?_
  obtain ⟨q_1, hc_1, hM⟩ := bd_some hM
  refine w_callV cx hP hD hS hA (c_X3_separate g l h_t h_t_groups h_t_sides a_t_groups a_t_sides hc_1) [0, 1, 2] rfl (by decide) rfl [ob h_t 3 [.ref h_t_groups, .ref h_t_sides], aI g h_t_groups 6 q_1.1, aI g h_t_sides 6 q_1.2, ob h_p1 2 [.int p1_vertices, .int p1_edges, .ref h_p1_firsts, .ref h_p1_seconds, .ref h_p1_signs], aI g h_p1_firsts 9 a_p1_firsts, aI g h_p1_seconds 9 a_p1_seconds, aI g h_p1_signs 9 a_p1_signs] rfl 0 3 rfl rfl yq_X3_separate rfl m_404 m_406 m_8 m_21 m_407 ⟨Nat.le_of_ble_eq_true rfl, Nat.le_of_ble_eq_true rfl⟩ rfl rfl hl.1 (Nat.le_of_ble_eq_true rfl) dX3_countGroups_1 ⟨Nat.le_refl 0, Nat.le_refl 0⟩ rfl (fun H locs hP hD hS => ?_)
  refine lv_aload_n hx hb dX3_countGroups_4 rfl (lv_at hl 1 rfl) ?_
  refine w_getN cx hP 3 2 0 rfl rfl (by decide) n_44 rfl rfl dX3_countGroups_5 ?_
  refine lv_istore_n (lv' := [(2, .int p1_vertices), (0, .ref h_t), (1, .ref h_p1)]) hx hb dX3_countGroups_8 rfl hl (by decide) rfl (fun ls hl => ?_)
  refine lv_iconst (v := (nI 0)) hx hb dX3_countGroups_9 (by decide) ?_
  refine lv_istore_n (lv' := [(3, .int (nI 0)), (2, .int p1_vertices), (0, .ref h_t), (1, .ref h_p1)]) hx hb dX3_countGroups_10 rfl hl (by decide) rfl (fun ls hl => ?_)
  obtain ⟨r_11, hw, hM⟩ := bd_some hM
  obtain ⟨n, hn⟩ := wh_some hw
  clear hw
  have hE_11_0 : ∀ (H : Heap) (locs : List Loc) (ls : Array Slot), va_P (gD g) vwCl [ob h_t 3 [.ref h_t_groups, .ref h_t_sides], aI g h_t_groups 6 r_11.2.1, aI g h_t_sides 6 r_11.2.2, ob h_p1 2 [.int p1_vertices, .int p1_edges, .ref h_p1_firsts, .ref h_p1_seconds, .ref h_p1_signs], aI g h_p1_firsts 9 a_p1_firsts, aI g h_p1_seconds 9 a_p1_seconds, aI g h_p1_signs 9 a_p1_signs] H → va_D A [ob h_t 3 [.ref h_t_groups, .ref h_t_sides], aI g h_t_groups 6 r_11.2.1, aI g h_t_sides 6 r_11.2.2, ob h_p1 2 [.int p1_vertices, .int p1_edges, .ref h_p1_firsts, .ref h_p1_seconds, .ref h_p1_signs], aI g h_p1_firsts 9 a_p1_firsts, aI g h_p1_seconds 9 a_p1_seconds, aI g h_p1_signs 9 a_p1_signs] → va_S A s.heap H locs → lv_has ls 4 [(2, .int r_11.1)] → W p l e (rmv 2 49) s m args below meth c H locs 0 0 Q (F0 m 37 ls []) := by
    intro H locs ls hP hD hS hl
    refine lv_iload_n hx hb dX3_countGroups_37 rfl (lv_at hl 0 rfl) ?_
    obtain rfl := Option.some.inj hM
    exact hfin 38 _ _ _ dX3_countGroups_38 hP hD hS
  clear hM
  have hL_11 : ∀ (n : Nat) (z_11 : Int32 × Int32 × (Nat → Int32) × (Nat → Int32)), it (b_X3_countGroups_11 p1_vertices p1_edges a_p1_firsts a_p1_seconds a_p1_signs) n z_11 = some r_11 → ∀ (H : Heap) (locs : List Loc) (ls : Array Slot), va_P (gD g) vwCl [ob h_t 3 [.ref h_t_groups, .ref h_t_sides], aI g h_t_groups 6 z_11.2.2.1, aI g h_t_sides 6 z_11.2.2.2, ob h_p1 2 [.int p1_vertices, .int p1_edges, .ref h_p1_firsts, .ref h_p1_seconds, .ref h_p1_signs], aI g h_p1_firsts 9 a_p1_firsts, aI g h_p1_seconds 9 a_p1_seconds, aI g h_p1_signs 9 a_p1_signs] H → va_D A [ob h_t 3 [.ref h_t_groups, .ref h_t_sides], aI g h_t_groups 6 z_11.2.2.1, aI g h_t_sides 6 z_11.2.2.2, ob h_p1 2 [.int p1_vertices, .int p1_edges, .ref h_p1_firsts, .ref h_p1_seconds, .ref h_p1_signs], aI g h_p1_firsts 9 a_p1_firsts, aI g h_p1_seconds 9 a_p1_seconds, aI g h_p1_signs 9 a_p1_signs] → va_S A s.heap H locs → lv_has ls 4 [(3, .int z_11.1), (2, .int z_11.2.1), (0, .ref h_t), (1, .ref h_p1)] → W p l e (rmv 2 49) s m args below meth c H locs 0 0 Q (F0 m 11 ls []) := by
    intro n
    induction n with
    | zero => intro z_11 hn; exact (it_zero hn).elim
    | succ n ih =>
      intro z_11 hn H locs ls hP hD hS hl
      obtain ⟨x, hM, hX⟩ := it_succ hn
      clear hn
      refine lv_iload_n hx hb dX3_countGroups_11 rfl (lv_at hl 0 rfl) ?_
      refine lv_aload_n hx hb dX3_countGroups_12 rfl (lv_at hl 3 rfl) ?_
      refine w_getN cx hP 3 2 1 rfl rfl (by decide) n_48 rfl rfl dX3_countGroups_13 ?_
      refine lv_icmp_ge (tgt := 37) hx hb dX3_countGroups_16 (by decide) (fun c_16 => ?_) (fun c_16 => ?_)
      · have hM := if_t hM c_16
        obtain rfl := Option.some.inj hM
        obtain rfl : _ = r_11 := hX
        exact hE_11_0 _ _ _ hP hD hS (lv_sub hl [1] rfl)
      · have hM := if_f hM c_16
        refine lv_aload_n hx hb dX3_countGroups_19 rfl (lv_at hl 2 rfl) ?_
        refine lv_aload_n hx hb dX3_countGroups_20 rfl (lv_at hl 3 rfl) ?_
        refine lv_iload_n hx hb dX3_countGroups_21 rfl (lv_at hl 0 rfl) ?_
        obtain ⟨q_22, hc_22, hM⟩ := bd_some hM
        refine w_callV cx hP hD hS hA (c_X3_unite g l h_t h_t_groups h_t_sides h_p1 h_p1_firsts h_p1_seconds h_p1_signs z_11.1 z_11.2.2.1 z_11.2.2.2 p1_vertices p1_edges a_p1_firsts a_p1_seconds a_p1_signs hc_22) [0, 1, 2, 3, 4, 5, 6] rfl (by decide) rfl [ob h_t 3 [.ref h_t_groups, .ref h_t_sides], aI g h_t_groups 6 q_22.2.1, aI g h_t_sides 6 q_22.2.2, ob h_p1 2 [.int p1_vertices, .int p1_edges, .ref h_p1_firsts, .ref h_p1_seconds, .ref h_p1_signs], aI g h_p1_firsts 9 a_p1_firsts, aI g h_p1_seconds 9 a_p1_seconds, aI g h_p1_signs 9 a_p1_signs] rfl 0 3 rfl rfl yq_X3_unite rfl m_408 m_410 m_9 m_21 m_411 ⟨Nat.le_of_ble_eq_true rfl, Nat.le_of_ble_eq_true rfl⟩ rfl rfl hl.1 (Nat.le_of_ble_eq_true rfl) dX3_countGroups_22 ⟨Nat.le_refl 0, Nat.le_refl 0⟩ rfl (fun H locs hP hD hS => ?_)
        refine lv_if_eq (tgt := 31) hx hb dX3_countGroups_25 (by decide) (fun c_25 => ?_) (fun c_25 => ?_)
        · have hM := if_t hM c_25
          refine lv_iinc (v := z_11.1 + (nI 1)) (lv' := [(3, .int (z_11.1 + (nI 1))), (2, .int z_11.2.1), (0, .ref h_t), (1, .ref h_p1)]) hx hb dX3_countGroups_31 hl (k := 0) rfl (congrArg (fun q => z_11.1 + q) (show Int32.ofInt (1) = (nI 1) by decide)) (by decide) rfl (fun ls hl => ?_)
          refine lv_goto (tgt := 11) hx hb dX3_countGroups_34 (by decide) ?_
          obtain rfl := Option.some.inj hM
          exact ih _ hX _ _ _ hP hD hS (lv_sub hl [0, 1, 2, 3] rfl)
        · have hM := if_f hM c_25
          obtain ⟨x_28, ex_28⟩ : ∃ q : Int32, q = z_11.2.1 + (nI 4294967295) := ⟨_, rfl⟩
          have hM := nm_some hM x_28 ex_28
          refine lv_iinc (v := x_28) (lv' := [(2, .int x_28), (3, .int z_11.1), (0, .ref h_t), (1, .ref h_p1)]) hx hb dX3_countGroups_28 hl (k := 1) rfl ((congrArg (fun q => z_11.2.1 + q) (show Int32.ofInt (-1) = (nI 4294967295) by decide)).trans ex_28.symm) (by decide) rfl (fun ls hl => ?_)
          refine lv_iinc (v := z_11.1 + (nI 1)) (lv' := [(3, .int (z_11.1 + (nI 1))), (2, .int x_28), (0, .ref h_t), (1, .ref h_p1)]) hx hb dX3_countGroups_31 hl (k := 1) rfl (congrArg (fun q => z_11.1 + q) (show Int32.ofInt (1) = (nI 1) by decide)) (by decide) rfl (fun ls hl => ?_)
          refine lv_goto (tgt := 11) hx hb dX3_countGroups_34 (by decide) ?_
          obtain rfl := Option.some.inj hM
          exact ih _ hX _ _ _ hP hD hS (lv_sub hl [0, 1, 2, 3] rfl)
  exact hL_11 n _ hn _ _ _ hP hD hS (lv_sub hl [0, 1, 2, 3] rfl)
noncomputable def b_X3_canDivide_6 (p1_vertices : Int32) (p1_edges : Int32) (a_p1_firsts : Nat → Int32) (a_p1_seconds : Nat → Int32) (a_p1_signs : Nat → Int32) : Int32 × (Nat → Int32) × (Nat → Int32) → Option ((Int32 × (Nat → Int32) × (Nat → Int32)) ⊕ (((Nat → Int32) × (Nat → Int32)) ⊕ ((Nat → Int32) × (Nat → Int32)))) := fun z_6 =>
  if p1_edges ≤ z_6.1 then some (.inr (.inr (z_6.2.1, z_6.2.2))) else bd (f_X3_unite z_6.1 z_6.2.1 z_6.2.2 p1_vertices p1_edges a_p1_firsts a_p1_seconds a_p1_signs) (fun (q_17 : Int32 × (Nat → Int32) × (Nat → Int32)) => if q_17.1 = 0 then bd (f_X3_turnFor z_6.1 q_17.2.2 p1_vertices p1_edges a_p1_firsts a_p1_seconds a_p1_signs) (fun (q_26 : Int32) => if q_26 = 0 then some (.inl (z_6.1 + (nI 1), q_17.2.1, q_17.2.2)) else some (.inr (.inl (q_17.2.1, q_17.2.2)))) else some (.inl (z_6.1 + (nI 1), q_17.2.1, q_17.2.2)))
noncomputable def f_X3_canDivide (a_t_groups : Nat → Int32) (a_t_sides : Nat → Int32) (p1_vertices : Int32) (p1_edges : Int32) (a_p1_firsts : Nat → Int32) (a_p1_seconds : Nat → Int32) (a_p1_signs : Nat → Int32) : Option (Int32 × (Nat → Int32) × (Nat → Int32)) :=
  bd (f_X3_separate a_t_groups a_t_sides) (fun (q_1 : (Nat → Int32) × (Nat → Int32)) => bd (wh (b_X3_canDivide_6 p1_vertices p1_edges a_p1_firsts a_p1_seconds a_p1_signs) ((nI 0), q_1.1, q_1.2)) (fun (r_6 : ((Nat → Int32) × (Nat → Int32)) ⊕ ((Nat → Int32) × (Nat → Int32))) => ex2 r_6 (fun (r_6_0 : (Nat → Int32) × (Nat → Int32)) => some ((nI 0), r_6_0.1, r_6_0.2)) (fun (r_6_1 : (Nat → Int32) × (Nat → Int32)) => some ((nI 1), r_6_1.1, r_6_1.2))))
theorem yq_X3_canDivide : yq yX3_canDivide 1 := by unfold yq; decide +kernel
set_option maxHeartbeats 4000000 in
set_option maxRecDepth 100000 in
theorem c_X3_canDivide (g : GG) (l : Launch) (h_t : Nat) (h_t_groups : Nat) (h_t_sides : Nat) (h_p1 : Nat) (h_p1_firsts : Nat) (h_p1_seconds : Nat) (h_p1_signs : Nat) (a_t_groups : Nat → Int32) (a_t_sides : Nat → Int32) (p1_vertices : Int32) (p1_edges : Int32) (a_p1_firsts : Nat → Int32) (a_p1_seconds : Nat → Int32) (a_p1_signs : Nat → Int32) {R : Int32 × (Nat → Int32) × (Nat → Int32)} (hM : f_X3_canDivide a_t_groups a_t_sides p1_vertices p1_edges a_p1_firsts a_p1_seconds a_p1_signs = some R) : CT g l yX3_canDivide cX3_canDivide 3 (some .boolean) 2 49 [.ref h_t, .ref h_p1] [ob h_t 3 [.ref h_t_groups, .ref h_t_sides], aI g h_t_groups 6 a_t_groups, aI g h_t_sides 6 a_t_sides, ob h_p1 2 [.int p1_vertices, .int p1_edges, .ref h_p1_firsts, .ref h_p1_seconds, .ref h_p1_signs], aI g h_p1_firsts 9 a_p1_firsts, aI g h_p1_seconds 9 a_p1_seconds, aI g h_p1_signs 9 a_p1_signs] [ob h_t 3 [.ref h_t_groups, .ref h_t_sides], aI g h_t_groups 6 R.2.1, aI g h_t_sides 6 R.2.2, ob h_p1 2 [.int p1_vertices, .int p1_edges, .ref h_p1_firsts, .ref h_p1_seconds, .ref h_p1_signs], aI g h_p1_firsts 9 a_p1_firsts, aI g h_p1_seconds 9 a_p1_seconds, aI g h_p1_signs 9 a_p1_signs] (some (.int R.1)) := by
  refine ct_z (by decide +kernel) (Nat.le_of_ble_eq_true rfl) ?_
  intro p e s m args below meth c Q A ls cx hP hD hA hl hfin
  obtain ⟨hx, hb, hml, hown, hts, hK⟩ := id cx
  have hl : lv_has ls 3 [(0, .ref h_t), (1, .ref h_p1)] := hl
  have hS : va_S A s.heap s.heap [] := va_S.rf
  refine lv_aload_n hx hb dX3_canDivide_0 rfl (lv_at hl 0 rfl) ?_
  obtain ⟨q_1, hc_1, hM⟩ := bd_some hM
  refine w_callV cx hP hD hS hA (c_X3_separate g l h_t h_t_groups h_t_sides a_t_groups a_t_sides hc_1) [0, 1, 2] rfl (by decide) rfl [ob h_t 3 [.ref h_t_groups, .ref h_t_sides], aI g h_t_groups 6 q_1.1, aI g h_t_sides 6 q_1.2, ob h_p1 2 [.int p1_vertices, .int p1_edges, .ref h_p1_firsts, .ref h_p1_seconds, .ref h_p1_signs], aI g h_p1_firsts 9 a_p1_firsts, aI g h_p1_seconds 9 a_p1_seconds, aI g h_p1_signs 9 a_p1_signs] rfl 0 3 rfl rfl yq_X3_separate rfl m_404 m_406 m_8 m_21 m_407 ⟨Nat.le_of_ble_eq_true rfl, Nat.le_of_ble_eq_true rfl⟩ rfl rfl hl.1 (Nat.le_of_ble_eq_true rfl) dX3_canDivide_1 ⟨Nat.le_refl 0, Nat.le_refl 0⟩ rfl (fun H locs hP hD hS => ?_)
  refine lv_iconst (v := (nI 0)) hx hb dX3_canDivide_4 (by decide) ?_
  refine lv_istore_n (lv' := [(2, .int (nI 0)), (0, .ref h_t), (1, .ref h_p1)]) hx hb dX3_canDivide_5 rfl hl (by decide) rfl (fun ls hl => ?_)
  obtain ⟨r_6, hw, hM⟩ := bd_some hM
  obtain ⟨n, hn⟩ := wh_some hw
  clear hw
  have hE_6_0 : ∀ (r_6_0 : (Nat → Int32) × (Nat → Int32)), r_6 = .inl r_6_0 → ∀ (H : Heap) (locs : List Loc) (ls : Array Slot), va_P (gD g) vwCl [ob h_t 3 [.ref h_t_groups, .ref h_t_sides], aI g h_t_groups 6 r_6_0.1, aI g h_t_sides 6 r_6_0.2, ob h_p1 2 [.int p1_vertices, .int p1_edges, .ref h_p1_firsts, .ref h_p1_seconds, .ref h_p1_signs], aI g h_p1_firsts 9 a_p1_firsts, aI g h_p1_seconds 9 a_p1_seconds, aI g h_p1_signs 9 a_p1_signs] H → va_D A [ob h_t 3 [.ref h_t_groups, .ref h_t_sides], aI g h_t_groups 6 r_6_0.1, aI g h_t_sides 6 r_6_0.2, ob h_p1 2 [.int p1_vertices, .int p1_edges, .ref h_p1_firsts, .ref h_p1_seconds, .ref h_p1_signs], aI g h_p1_firsts 9 a_p1_firsts, aI g h_p1_seconds 9 a_p1_seconds, aI g h_p1_signs 9 a_p1_signs] → va_S A s.heap H locs → lv_has ls 3 [] → W p l e (rmv 2 49) s m args below meth c H locs 0 0 Q (F0 m 32 ls []) := by
    intro r_6_0 hr H locs ls hP hD hS hl
    have hM := ex2_0 hM hr
    refine lv_iconst (v := (nI 0)) hx hb dX3_canDivide_32 (by decide) ?_
    have hz : bq (nI 0) = true := by decide
    obtain rfl := Option.some.inj hM
    exact hfin 33 _ _ _ dX3_canDivide_33 hz hP hD hS
  have hE_6_1 : ∀ (r_6_1 : (Nat → Int32) × (Nat → Int32)), r_6 = .inr r_6_1 → ∀ (H : Heap) (locs : List Loc) (ls : Array Slot), va_P (gD g) vwCl [ob h_t 3 [.ref h_t_groups, .ref h_t_sides], aI g h_t_groups 6 r_6_1.1, aI g h_t_sides 6 r_6_1.2, ob h_p1 2 [.int p1_vertices, .int p1_edges, .ref h_p1_firsts, .ref h_p1_seconds, .ref h_p1_signs], aI g h_p1_firsts 9 a_p1_firsts, aI g h_p1_seconds 9 a_p1_seconds, aI g h_p1_signs 9 a_p1_signs] H → va_D A [ob h_t 3 [.ref h_t_groups, .ref h_t_sides], aI g h_t_groups 6 r_6_1.1, aI g h_t_sides 6 r_6_1.2, ob h_p1 2 [.int p1_vertices, .int p1_edges, .ref h_p1_firsts, .ref h_p1_seconds, .ref h_p1_signs], aI g h_p1_firsts 9 a_p1_firsts, aI g h_p1_seconds 9 a_p1_seconds, aI g h_p1_signs 9 a_p1_signs] → va_S A s.heap H locs → lv_has ls 3 [] → W p l e (rmv 2 49) s m args below meth c H locs 0 0 Q (F0 m 40 ls []) := by
    intro r_6_1 hr H locs ls hP hD hS hl
    have hM := ex2_1 hM hr
    refine lv_iconst (v := (nI 1)) hx hb dX3_canDivide_40 (by decide) ?_
    have hz : bq (nI 1) = true := by decide
    obtain rfl := Option.some.inj hM
    exact hfin 41 _ _ _ dX3_canDivide_41 hz hP hD hS
  clear hM
  have hL_6 : ∀ (n : Nat) (z_6 : Int32 × (Nat → Int32) × (Nat → Int32)), it (b_X3_canDivide_6 p1_vertices p1_edges a_p1_firsts a_p1_seconds a_p1_signs) n z_6 = some r_6 → ∀ (H : Heap) (locs : List Loc) (ls : Array Slot), va_P (gD g) vwCl [ob h_t 3 [.ref h_t_groups, .ref h_t_sides], aI g h_t_groups 6 z_6.2.1, aI g h_t_sides 6 z_6.2.2, ob h_p1 2 [.int p1_vertices, .int p1_edges, .ref h_p1_firsts, .ref h_p1_seconds, .ref h_p1_signs], aI g h_p1_firsts 9 a_p1_firsts, aI g h_p1_seconds 9 a_p1_seconds, aI g h_p1_signs 9 a_p1_signs] H → va_D A [ob h_t 3 [.ref h_t_groups, .ref h_t_sides], aI g h_t_groups 6 z_6.2.1, aI g h_t_sides 6 z_6.2.2, ob h_p1 2 [.int p1_vertices, .int p1_edges, .ref h_p1_firsts, .ref h_p1_seconds, .ref h_p1_signs], aI g h_p1_firsts 9 a_p1_firsts, aI g h_p1_seconds 9 a_p1_seconds, aI g h_p1_signs 9 a_p1_signs] → va_S A s.heap H locs → lv_has ls 3 [(2, .int z_6.1), (0, .ref h_t), (1, .ref h_p1)] → W p l e (rmv 2 49) s m args below meth c H locs 0 0 Q (F0 m 6 ls []) := by
    intro n
    induction n with
    | zero => intro z_6 hn; exact (it_zero hn).elim
    | succ n ih =>
      intro z_6 hn H locs ls hP hD hS hl
      obtain ⟨x, hM, hX⟩ := it_succ hn
      clear hn
      refine lv_iload_n hx hb dX3_canDivide_6 rfl (lv_at hl 0 rfl) ?_
      refine lv_aload_n hx hb dX3_canDivide_7 rfl (lv_at hl 2 rfl) ?_
      refine w_getN cx hP 3 2 1 rfl rfl (by decide) n_48 rfl rfl dX3_canDivide_8 ?_
      refine lv_icmp_ge (tgt := 40) hx hb dX3_canDivide_11 (by decide) (fun c_11 => ?_) (fun c_11 => ?_)
      · have hM := if_t hM c_11
        obtain rfl := Option.some.inj hM
        obtain rfl : _ = r_6 := hX
        exact hE_6_1 _ rfl _ _ _ hP hD hS (lv_sub hl [] rfl)
      · have hM := if_f hM c_11
        refine lv_aload_n hx hb dX3_canDivide_14 rfl (lv_at hl 1 rfl) ?_
        refine lv_aload_n hx hb dX3_canDivide_15 rfl (lv_at hl 2 rfl) ?_
        refine lv_iload_n hx hb dX3_canDivide_16 rfl (lv_at hl 0 rfl) ?_
        obtain ⟨q_17, hc_17, hM⟩ := bd_some hM
        refine w_callV cx hP hD hS hA (c_X3_unite g l h_t h_t_groups h_t_sides h_p1 h_p1_firsts h_p1_seconds h_p1_signs z_6.1 z_6.2.1 z_6.2.2 p1_vertices p1_edges a_p1_firsts a_p1_seconds a_p1_signs hc_17) [0, 1, 2, 3, 4, 5, 6] rfl (by decide) rfl [ob h_t 3 [.ref h_t_groups, .ref h_t_sides], aI g h_t_groups 6 q_17.2.1, aI g h_t_sides 6 q_17.2.2, ob h_p1 2 [.int p1_vertices, .int p1_edges, .ref h_p1_firsts, .ref h_p1_seconds, .ref h_p1_signs], aI g h_p1_firsts 9 a_p1_firsts, aI g h_p1_seconds 9 a_p1_seconds, aI g h_p1_signs 9 a_p1_signs] rfl 0 3 rfl rfl yq_X3_unite rfl m_408 m_410 m_9 m_21 m_411 ⟨Nat.le_of_ble_eq_true rfl, Nat.le_of_ble_eq_true rfl⟩ rfl rfl hl.1 (Nat.le_of_ble_eq_true rfl) dX3_canDivide_17 ⟨Nat.le_refl 0, Nat.le_refl 0⟩ rfl (fun H locs hP hD hS => ?_)
        refine lv_if_ne (tgt := 34) hx hb dX3_canDivide_20 (by decide) (fun c_20 => ?_) (fun c_20 => ?_)
        · have hM := if_f hM c_20
          refine lv_iinc (v := z_6.1 + (nI 1)) (lv' := [(2, .int (z_6.1 + (nI 1))), (0, .ref h_t), (1, .ref h_p1)]) hx hb dX3_canDivide_34 hl (k := 0) rfl (congrArg (fun q => z_6.1 + q) (show Int32.ofInt (1) = (nI 1) by decide)) (by decide) rfl (fun ls hl => ?_)
          refine lv_goto (tgt := 6) hx hb dX3_canDivide_37 (by decide) ?_
          obtain rfl := Option.some.inj hM
          exact ih _ hX _ _ _ hP hD hS (lv_sub hl [0, 1, 2] rfl)
        · have hM := if_t hM c_20
          refine lv_aload_n hx hb dX3_canDivide_23 rfl (lv_at hl 1 rfl) ?_
          refine lv_aload_n hx hb dX3_canDivide_24 rfl (lv_at hl 2 rfl) ?_
          refine lv_iload_n hx hb dX3_canDivide_25 rfl (lv_at hl 0 rfl) ?_
          obtain ⟨q_26, hc_26, hM⟩ := bd_some hM
          refine w_callV cx hP hD hS hA (c_X3_turnFor g l h_t h_t_groups h_t_sides h_p1 h_p1_firsts h_p1_seconds h_p1_signs z_6.1 q_17.2.2 p1_vertices p1_edges a_p1_firsts a_p1_seconds a_p1_signs hc_26) [0, 2, 3, 4, 5, 6] rfl (by decide) rfl [ob h_t 3 [.ref h_t_groups, .ref h_t_sides], aI g h_t_groups 6 q_17.2.1, aI g h_t_sides 6 q_17.2.2, ob h_p1 2 [.int p1_vertices, .int p1_edges, .ref h_p1_firsts, .ref h_p1_seconds, .ref h_p1_signs], aI g h_p1_firsts 9 a_p1_firsts, aI g h_p1_seconds 9 a_p1_seconds, aI g h_p1_signs 9 a_p1_signs] rfl 0 3 rfl rfl yq_X3_turnFor rfl m_412 m_414 m_10 m_21 m_415 ⟨Nat.le_of_ble_eq_true rfl, Nat.le_of_ble_eq_true rfl⟩ rfl rfl hl.1 (Nat.le_of_ble_eq_true rfl) dX3_canDivide_26 ⟨Nat.le_refl 0, Nat.le_refl 0⟩ rfl (fun H locs hP hD hS => ?_)
          refine lv_if_eq (tgt := 34) hx hb dX3_canDivide_29 (by decide) (fun c_29 => ?_) (fun c_29 => ?_)
          · have hM := if_t hM c_29
            refine lv_iinc (v := z_6.1 + (nI 1)) (lv' := [(2, .int (z_6.1 + (nI 1))), (0, .ref h_t), (1, .ref h_p1)]) hx hb dX3_canDivide_34 hl (k := 0) rfl (congrArg (fun q => z_6.1 + q) (show Int32.ofInt (1) = (nI 1) by decide)) (by decide) rfl (fun ls hl => ?_)
            refine lv_goto (tgt := 6) hx hb dX3_canDivide_37 (by decide) ?_
            obtain rfl := Option.some.inj hM
            exact ih _ hX _ _ _ hP hD hS (lv_sub hl [0, 1, 2] rfl)
          · have hM := if_f hM c_29
            obtain rfl := Option.some.inj hM
            obtain rfl : _ = r_6 := hX
            exact hE_6_0 _ rfl _ _ _ hP hD hS (lv_sub hl [] rfl)
  exact hL_6 n _ hn _ _ _ hP hD hS (lv_sub hl [0, 1, 2] rfl)
noncomputable def b_X3_isForest_6 (p2 : Int32) (p1_vertices : Int32) (p1_edges : Int32) (a_p1_firsts : Nat → Int32) (a_p1_seconds : Nat → Int32) (a_p1_signs : Nat → Int32) : Int32 × (Nat → Int32) × (Nat → Int32) → Option ((Int32 × (Nat → Int32) × (Nat → Int32)) ⊕ (((Nat → Int32) × (Nat → Int32)) ⊕ ((Nat → Int32) × (Nat → Int32)))) := fun z_6 =>
  if p1_edges ≤ z_6.1 then some (.inr (.inr (z_6.2.1, z_6.2.2))) else bd (if ((p2 >>> (z_6.1 &&& 31)) &&& (nI 1)) = (nI 1) then some (nI 1) else some (nI 0)) (fun (j_20 : Int32) => if j_20 = 0 then some (.inl (z_6.1 + (nI 1), z_6.2.1, z_6.2.2)) else bd (f_X3_unite z_6.1 z_6.2.1 z_6.2.2 p1_vertices p1_edges a_p1_firsts a_p1_seconds a_p1_signs) (fun (q_38 : Int32 × (Nat → Int32) × (Nat → Int32)) => if q_38.1 = 0 then some (.inr (.inl (q_38.2.1, q_38.2.2))) else some (.inl (z_6.1 + (nI 1), q_38.2.1, q_38.2.2))))
noncomputable def f_X3_isForest (p2 : Int32) (a_t_groups : Nat → Int32) (a_t_sides : Nat → Int32) (p1_vertices : Int32) (p1_edges : Int32) (a_p1_firsts : Nat → Int32) (a_p1_seconds : Nat → Int32) (a_p1_signs : Nat → Int32) : Option (Int32 × (Nat → Int32) × (Nat → Int32)) :=
  bd (f_X3_separate a_t_groups a_t_sides) (fun (q_1 : (Nat → Int32) × (Nat → Int32)) => bd (wh (b_X3_isForest_6 p2 p1_vertices p1_edges a_p1_firsts a_p1_seconds a_p1_signs) ((nI 0), q_1.1, q_1.2)) (fun (r_6 : ((Nat → Int32) × (Nat → Int32)) ⊕ ((Nat → Int32) × (Nat → Int32))) => ex2 r_6 (fun (r_6_0 : (Nat → Int32) × (Nat → Int32)) => some ((nI 0), r_6_0.1, r_6_0.2)) (fun (r_6_1 : (Nat → Int32) × (Nat → Int32)) => some ((nI 1), r_6_1.1, r_6_1.2))))
theorem yq_X3_isForest : yq yX3_isForest 2 := by unfold yq; decide +kernel
set_option maxHeartbeats 4000000 in
set_option maxRecDepth 100000 in
theorem c_X3_isForest (g : GG) (l : Launch) (h_t : Nat) (h_t_groups : Nat) (h_t_sides : Nat) (h_p1 : Nat) (h_p1_firsts : Nat) (h_p1_seconds : Nat) (h_p1_signs : Nat) (p2 : Int32) (a_t_groups : Nat → Int32) (a_t_sides : Nat → Int32) (p1_vertices : Int32) (p1_edges : Int32) (a_p1_firsts : Nat → Int32) (a_p1_seconds : Nat → Int32) (a_p1_signs : Nat → Int32) {R : Int32 × (Nat → Int32) × (Nat → Int32)} (hM : f_X3_isForest p2 a_t_groups a_t_sides p1_vertices p1_edges a_p1_firsts a_p1_seconds a_p1_signs = some R) : CT g l yX3_isForest cX3_isForest 5 (some .boolean) 2 49 [.ref h_t, .ref h_p1, .int p2] [ob h_t 3 [.ref h_t_groups, .ref h_t_sides], aI g h_t_groups 6 a_t_groups, aI g h_t_sides 6 a_t_sides, ob h_p1 2 [.int p1_vertices, .int p1_edges, .ref h_p1_firsts, .ref h_p1_seconds, .ref h_p1_signs], aI g h_p1_firsts 9 a_p1_firsts, aI g h_p1_seconds 9 a_p1_seconds, aI g h_p1_signs 9 a_p1_signs] [ob h_t 3 [.ref h_t_groups, .ref h_t_sides], aI g h_t_groups 6 R.2.1, aI g h_t_sides 6 R.2.2, ob h_p1 2 [.int p1_vertices, .int p1_edges, .ref h_p1_firsts, .ref h_p1_seconds, .ref h_p1_signs], aI g h_p1_firsts 9 a_p1_firsts, aI g h_p1_seconds 9 a_p1_seconds, aI g h_p1_signs 9 a_p1_signs] (some (.int R.1)) := by
  refine ct_z (by decide +kernel) (Nat.le_of_ble_eq_true rfl) ?_
  intro p e s m args below meth c Q A ls cx hP hD hA hl hfin
  obtain ⟨hx, hb, hml, hown, hts, hK⟩ := id cx
  have hl : lv_has ls 5 [(0, .ref h_t), (1, .ref h_p1), (2, .int p2)] := hl
  have hS : va_S A s.heap s.heap [] := va_S.rf
  refine lv_aload_n hx hb dX3_isForest_0 rfl (lv_at hl 0 rfl) ?_
  obtain ⟨q_1, hc_1, hM⟩ := bd_some hM
  refine w_callV cx hP hD hS hA (c_X3_separate g l h_t h_t_groups h_t_sides a_t_groups a_t_sides hc_1) [0, 1, 2] rfl (by decide) rfl [ob h_t 3 [.ref h_t_groups, .ref h_t_sides], aI g h_t_groups 6 q_1.1, aI g h_t_sides 6 q_1.2, ob h_p1 2 [.int p1_vertices, .int p1_edges, .ref h_p1_firsts, .ref h_p1_seconds, .ref h_p1_signs], aI g h_p1_firsts 9 a_p1_firsts, aI g h_p1_seconds 9 a_p1_seconds, aI g h_p1_signs 9 a_p1_signs] rfl 0 3 rfl rfl yq_X3_separate rfl m_404 m_406 m_8 m_21 m_407 ⟨Nat.le_of_ble_eq_true rfl, Nat.le_of_ble_eq_true rfl⟩ rfl rfl hl.1 (Nat.le_of_ble_eq_true rfl) dX3_isForest_1 ⟨Nat.le_refl 0, Nat.le_refl 0⟩ rfl (fun H locs hP hD hS => ?_)
  refine lv_iconst (v := (nI 0)) hx hb dX3_isForest_4 (by decide) ?_
  refine lv_istore_n (lv' := [(3, .int (nI 0)), (0, .ref h_t), (1, .ref h_p1), (2, .int p2)]) hx hb dX3_isForest_5 rfl hl (by decide) rfl (fun ls hl => ?_)
  obtain ⟨r_6, hw, hM⟩ := bd_some hM
  obtain ⟨n, hn⟩ := wh_some hw
  clear hw
  have hE_6_0 : ∀ (r_6_0 : (Nat → Int32) × (Nat → Int32)), r_6 = .inl r_6_0 → ∀ (H : Heap) (locs : List Loc) (ls : Array Slot), va_P (gD g) vwCl [ob h_t 3 [.ref h_t_groups, .ref h_t_sides], aI g h_t_groups 6 r_6_0.1, aI g h_t_sides 6 r_6_0.2, ob h_p1 2 [.int p1_vertices, .int p1_edges, .ref h_p1_firsts, .ref h_p1_seconds, .ref h_p1_signs], aI g h_p1_firsts 9 a_p1_firsts, aI g h_p1_seconds 9 a_p1_seconds, aI g h_p1_signs 9 a_p1_signs] H → va_D A [ob h_t 3 [.ref h_t_groups, .ref h_t_sides], aI g h_t_groups 6 r_6_0.1, aI g h_t_sides 6 r_6_0.2, ob h_p1 2 [.int p1_vertices, .int p1_edges, .ref h_p1_firsts, .ref h_p1_seconds, .ref h_p1_signs], aI g h_p1_firsts 9 a_p1_firsts, aI g h_p1_seconds 9 a_p1_seconds, aI g h_p1_signs 9 a_p1_signs] → va_S A s.heap H locs → lv_has ls 5 [] → W p l e (rmv 2 49) s m args below meth c H locs 0 0 Q (F0 m 44 ls []) := by
    intro r_6_0 hr H locs ls hP hD hS hl
    have hM := ex2_0 hM hr
    refine lv_iconst (v := (nI 0)) hx hb dX3_isForest_44 (by decide) ?_
    have hz : bq (nI 0) = true := by decide
    obtain rfl := Option.some.inj hM
    exact hfin 45 _ _ _ dX3_isForest_45 hz hP hD hS
  have hE_6_1 : ∀ (r_6_1 : (Nat → Int32) × (Nat → Int32)), r_6 = .inr r_6_1 → ∀ (H : Heap) (locs : List Loc) (ls : Array Slot), va_P (gD g) vwCl [ob h_t 3 [.ref h_t_groups, .ref h_t_sides], aI g h_t_groups 6 r_6_1.1, aI g h_t_sides 6 r_6_1.2, ob h_p1 2 [.int p1_vertices, .int p1_edges, .ref h_p1_firsts, .ref h_p1_seconds, .ref h_p1_signs], aI g h_p1_firsts 9 a_p1_firsts, aI g h_p1_seconds 9 a_p1_seconds, aI g h_p1_signs 9 a_p1_signs] H → va_D A [ob h_t 3 [.ref h_t_groups, .ref h_t_sides], aI g h_t_groups 6 r_6_1.1, aI g h_t_sides 6 r_6_1.2, ob h_p1 2 [.int p1_vertices, .int p1_edges, .ref h_p1_firsts, .ref h_p1_seconds, .ref h_p1_signs], aI g h_p1_firsts 9 a_p1_firsts, aI g h_p1_seconds 9 a_p1_seconds, aI g h_p1_signs 9 a_p1_signs] → va_S A s.heap H locs → lv_has ls 5 [] → W p l e (rmv 2 49) s m args below meth c H locs 0 0 Q (F0 m 52 ls []) := by
    intro r_6_1 hr H locs ls hP hD hS hl
    have hM := ex2_1 hM hr
    refine lv_iconst (v := (nI 1)) hx hb dX3_isForest_52 (by decide) ?_
    have hz : bq (nI 1) = true := by decide
    obtain rfl := Option.some.inj hM
    exact hfin 53 _ _ _ dX3_isForest_53 hz hP hD hS
  clear hM
  have hL_6 : ∀ (n : Nat) (z_6 : Int32 × (Nat → Int32) × (Nat → Int32)), it (b_X3_isForest_6 p2 p1_vertices p1_edges a_p1_firsts a_p1_seconds a_p1_signs) n z_6 = some r_6 → ∀ (H : Heap) (locs : List Loc) (ls : Array Slot), va_P (gD g) vwCl [ob h_t 3 [.ref h_t_groups, .ref h_t_sides], aI g h_t_groups 6 z_6.2.1, aI g h_t_sides 6 z_6.2.2, ob h_p1 2 [.int p1_vertices, .int p1_edges, .ref h_p1_firsts, .ref h_p1_seconds, .ref h_p1_signs], aI g h_p1_firsts 9 a_p1_firsts, aI g h_p1_seconds 9 a_p1_seconds, aI g h_p1_signs 9 a_p1_signs] H → va_D A [ob h_t 3 [.ref h_t_groups, .ref h_t_sides], aI g h_t_groups 6 z_6.2.1, aI g h_t_sides 6 z_6.2.2, ob h_p1 2 [.int p1_vertices, .int p1_edges, .ref h_p1_firsts, .ref h_p1_seconds, .ref h_p1_signs], aI g h_p1_firsts 9 a_p1_firsts, aI g h_p1_seconds 9 a_p1_seconds, aI g h_p1_signs 9 a_p1_signs] → va_S A s.heap H locs → lv_has ls 5 [(3, .int z_6.1), (0, .ref h_t), (1, .ref h_p1), (2, .int p2)] → W p l e (rmv 2 49) s m args below meth c H locs 0 0 Q (F0 m 6 ls []) := by
    intro n
    induction n with
    | zero => intro z_6 hn; exact (it_zero hn).elim
    | succ n ih =>
      intro z_6 hn H locs ls hP hD hS hl
      obtain ⟨x, hM, hX⟩ := it_succ hn
      clear hn
      refine lv_iload_n hx hb dX3_isForest_6 rfl (lv_at hl 0 rfl) ?_
      refine lv_aload_n hx hb dX3_isForest_7 rfl (lv_at hl 2 rfl) ?_
      refine w_getN cx hP 3 2 1 rfl rfl (by decide) n_48 rfl rfl dX3_isForest_8 ?_
      refine lv_icmp_ge (tgt := 52) hx hb dX3_isForest_11 (by decide) (fun c_11 => ?_) (fun c_11 => ?_)
      · have hM := if_t hM c_11
        obtain rfl := Option.some.inj hM
        obtain rfl : _ = r_6 := hX
        exact hE_6_1 _ rfl _ _ _ hP hD hS (lv_sub hl [] rfl)
      · have hM := if_f hM c_11
        refine lv_iload_n hx hb dX3_isForest_14 rfl (lv_at hl 3 rfl) ?_
        refine lv_iload_n hx hb dX3_isForest_15 rfl (lv_at hl 0 rfl) ?_
        refine lv_ishr hx hb dX3_isForest_16 ?_
        refine lv_iconst (v := (nI 1)) hx hb dX3_isForest_17 (by decide) ?_
        refine lv_iand hx hb dX3_isForest_18 ?_
        refine lv_iconst (v := (nI 1)) hx hb dX3_isForest_19 (by decide) ?_
        obtain ⟨j_20, hB, hM⟩ := bd_some hM
        have hJ_20 : ∀ (H : Heap) (locs : List Loc) (ls : Array Slot), va_P (gD g) vwCl [ob h_t 3 [.ref h_t_groups, .ref h_t_sides], aI g h_t_groups 6 z_6.2.1, aI g h_t_sides 6 z_6.2.2, ob h_p1 2 [.int p1_vertices, .int p1_edges, .ref h_p1_firsts, .ref h_p1_seconds, .ref h_p1_signs], aI g h_p1_firsts 9 a_p1_firsts, aI g h_p1_seconds 9 a_p1_seconds, aI g h_p1_signs 9 a_p1_signs] H → va_D A [ob h_t 3 [.ref h_t_groups, .ref h_t_sides], aI g h_t_groups 6 z_6.2.1, aI g h_t_sides 6 z_6.2.2, ob h_p1 2 [.int p1_vertices, .int p1_edges, .ref h_p1_firsts, .ref h_p1_seconds, .ref h_p1_signs], aI g h_p1_firsts 9 a_p1_firsts, aI g h_p1_seconds 9 a_p1_seconds, aI g h_p1_signs 9 a_p1_signs] → va_S A s.heap H locs → lv_has ls 5 [(3, .int z_6.1), (0, .ref h_t), (1, .ref h_p1), (2, .int p2)] → W p l e (rmv 2 49) s m args below meth c H locs 0 0 Q (F0 m 28 ls [.int j_20]) := by
          intro H locs ls hP hD hS hl
          refine lv_istore (lv' := [(4, .int j_20), (3, .int z_6.1), (0, .ref h_t), (1, .ref h_p1), (2, .int p2)]) hx hb dX3_isForest_28 hl (by decide) rfl (fun ls hl => ?_)
          refine lv_iload hx hb dX3_isForest_30 (lv_at hl 0 rfl) ?_
          refine lv_if_eq (tgt := 46) hx hb dX3_isForest_32 (by decide) (fun c_32 => ?_) (fun c_32 => ?_)
          · have hM := if_t hM c_32
            refine lv_iinc (v := z_6.1 + (nI 1)) (lv' := [(3, .int (z_6.1 + (nI 1))), (4, .int j_20), (0, .ref h_t), (1, .ref h_p1), (2, .int p2)]) hx hb dX3_isForest_46 hl (k := 1) rfl (congrArg (fun q => z_6.1 + q) (show Int32.ofInt (1) = (nI 1) by decide)) (by decide) rfl (fun ls hl => ?_)
            refine lv_goto (tgt := 6) hx hb dX3_isForest_49 (by decide) ?_
            obtain rfl := Option.some.inj hM
            exact ih _ hX _ _ _ hP hD hS (lv_sub hl [0, 2, 3, 4] rfl)
          · have hM := if_f hM c_32
            refine lv_aload_n hx hb dX3_isForest_35 rfl (lv_at hl 2 rfl) ?_
            refine lv_aload_n hx hb dX3_isForest_36 rfl (lv_at hl 3 rfl) ?_
            refine lv_iload_n hx hb dX3_isForest_37 rfl (lv_at hl 1 rfl) ?_
            obtain ⟨q_38, hc_38, hM⟩ := bd_some hM
            refine w_callV cx hP hD hS hA (c_X3_unite g l h_t h_t_groups h_t_sides h_p1 h_p1_firsts h_p1_seconds h_p1_signs z_6.1 z_6.2.1 z_6.2.2 p1_vertices p1_edges a_p1_firsts a_p1_seconds a_p1_signs hc_38) [0, 1, 2, 3, 4, 5, 6] rfl (by decide) rfl [ob h_t 3 [.ref h_t_groups, .ref h_t_sides], aI g h_t_groups 6 q_38.2.1, aI g h_t_sides 6 q_38.2.2, ob h_p1 2 [.int p1_vertices, .int p1_edges, .ref h_p1_firsts, .ref h_p1_seconds, .ref h_p1_signs], aI g h_p1_firsts 9 a_p1_firsts, aI g h_p1_seconds 9 a_p1_seconds, aI g h_p1_signs 9 a_p1_signs] rfl 0 3 rfl rfl yq_X3_unite rfl m_408 m_410 m_9 m_21 m_411 ⟨Nat.le_of_ble_eq_true rfl, Nat.le_of_ble_eq_true rfl⟩ rfl rfl hl.1 (Nat.le_of_ble_eq_true rfl) dX3_isForest_38 ⟨Nat.le_refl 0, Nat.le_refl 0⟩ rfl (fun H locs hP hD hS => ?_)
            refine lv_if_ne (tgt := 46) hx hb dX3_isForest_41 (by decide) (fun c_41 => ?_) (fun c_41 => ?_)
            · have hM := if_f hM c_41
              refine lv_iinc (v := z_6.1 + (nI 1)) (lv' := [(3, .int (z_6.1 + (nI 1))), (4, .int j_20), (0, .ref h_t), (1, .ref h_p1), (2, .int p2)]) hx hb dX3_isForest_46 hl (k := 1) rfl (congrArg (fun q => z_6.1 + q) (show Int32.ofInt (1) = (nI 1) by decide)) (by decide) rfl (fun ls hl => ?_)
              refine lv_goto (tgt := 6) hx hb dX3_isForest_49 (by decide) ?_
              obtain rfl := Option.some.inj hM
              exact ih _ hX _ _ _ hP hD hS (lv_sub hl [0, 2, 3, 4] rfl)
            · have hM := if_t hM c_41
              obtain rfl := Option.some.inj hM
              obtain rfl : _ = r_6 := hX
              exact hE_6_0 _ rfl _ _ _ hP hD hS (lv_sub hl [] rfl)
        clear hM
        have hM := hB
        clear hB
        refine lv_icmp_ne (tgt := 27) hx hb dX3_isForest_20 (by decide) (fun c_20 => ?_) (fun c_20 => ?_)
        · have hM := if_f hM c_20
          refine lv_iconst (v := (nI 0)) hx hb dX3_isForest_27 (by decide) ?_
          obtain rfl := Option.some.inj hM
          exact hJ_20 _ _ _ hP hD hS (lv_sub hl [0, 1, 2, 3] rfl)
        · have hM := if_t hM c_20
          refine lv_iconst (v := (nI 1)) hx hb dX3_isForest_23 (by decide) ?_
          refine lv_goto (tgt := 28) hx hb dX3_isForest_24 (by decide) ?_
          obtain rfl := Option.some.inj hM
          exact hJ_20 _ _ _ hP hD hS (lv_sub hl [0, 1, 2, 3] rfl)
  exact hL_6 n _ hn _ _ _ hP hD hS (lv_sub hl [0, 1, 2, 3] rfl)
noncomputable def b_X3_countTrees_4 (p1_vertices : Int32) (p1_edges : Int32) (a_p1_firsts : Nat → Int32) (a_p1_seconds : Nat → Int32) (a_p1_signs : Nat → Int32) : Int32 × Int32 × (Nat → Int32) × (Nat → Int32) → Option ((Int32 × Int32 × (Nat → Int32) × (Nat → Int32)) ⊕ ((Int32 × (Nat → Int32) × (Nat → Int32)))) := fun z_4 =>
  if ((nI 1) <<< (p1_edges &&& 31)) ≤ z_4.1 then some (.inr (z_4.2.1, z_4.2.2.1, z_4.2.2.2)) else bd (f_J6_bitCount_0f7a4 z_4.1) (fun (q_15 : Int32) => if q_15 = (p1_vertices - (nI 1)) then bd (f_X3_isForest z_4.1 z_4.2.2.1 z_4.2.2.2 p1_vertices p1_edges a_p1_firsts a_p1_seconds a_p1_signs) (fun (q_30 : Int32 × (Nat → Int32) × (Nat → Int32)) => if q_30.1 = 0 then some (.inl (z_4.1 + (nI 1), z_4.2.1, q_30.2.1, q_30.2.2)) else some (.inl (z_4.1 + (nI 1), z_4.2.1 + (nI 1), q_30.2.1, q_30.2.2))) else some (.inl (z_4.1 + (nI 1), z_4.2.1, z_4.2.2.1, z_4.2.2.2)))
noncomputable def f_X3_countTrees (a_t_groups : Nat → Int32) (a_t_sides : Nat → Int32) (p1_vertices : Int32) (p1_edges : Int32) (a_p1_firsts : Nat → Int32) (a_p1_seconds : Nat → Int32) (a_p1_signs : Nat → Int32) : Option (Int32 × (Nat → Int32) × (Nat → Int32)) :=
  bd (wh (b_X3_countTrees_4 p1_vertices p1_edges a_p1_firsts a_p1_seconds a_p1_signs) ((nI 0), (nI 0), a_t_groups, a_t_sides)) (fun (r_4 : Int32 × (Nat → Int32) × (Nat → Int32)) => some (r_4.1, r_4.2.1, r_4.2.2))
theorem yq_X3_countTrees : yq yX3_countTrees 1 := by unfold yq; decide +kernel
set_option maxHeartbeats 4000000 in
set_option maxRecDepth 100000 in
theorem c_X3_countTrees (g : GG) (l : Launch) (h_t : Nat) (h_t_groups : Nat) (h_t_sides : Nat) (h_p1 : Nat) (h_p1_firsts : Nat) (h_p1_seconds : Nat) (h_p1_signs : Nat) (a_t_groups : Nat → Int32) (a_t_sides : Nat → Int32) (p1_vertices : Int32) (p1_edges : Int32) (a_p1_firsts : Nat → Int32) (a_p1_seconds : Nat → Int32) (a_p1_signs : Nat → Int32) {R : Int32 × (Nat → Int32) × (Nat → Int32)} (hM : f_X3_countTrees a_t_groups a_t_sides p1_vertices p1_edges a_p1_firsts a_p1_seconds a_p1_signs = some R) : CT g l yX3_countTrees cX3_countTrees 4 (some .int) 3 73 [.ref h_t, .ref h_p1] [ob h_t 3 [.ref h_t_groups, .ref h_t_sides], aI g h_t_groups 6 a_t_groups, aI g h_t_sides 6 a_t_sides, ob h_p1 2 [.int p1_vertices, .int p1_edges, .ref h_p1_firsts, .ref h_p1_seconds, .ref h_p1_signs], aI g h_p1_firsts 9 a_p1_firsts, aI g h_p1_seconds 9 a_p1_seconds, aI g h_p1_signs 9 a_p1_signs] [ob h_t 3 [.ref h_t_groups, .ref h_t_sides], aI g h_t_groups 6 R.2.1, aI g h_t_sides 6 R.2.2, ob h_p1 2 [.int p1_vertices, .int p1_edges, .ref h_p1_firsts, .ref h_p1_seconds, .ref h_p1_signs], aI g h_p1_firsts 9 a_p1_firsts, aI g h_p1_seconds 9 a_p1_seconds, aI g h_p1_signs 9 a_p1_signs] (some (.int R.1)) := by
  refine ct_i (by decide +kernel) (Nat.le_of_ble_eq_true rfl) ?_
  intro p e s m args below meth c Q A ls cx hP hD hA hl hfin
  obtain ⟨hx, hb, hml, hown, hts, hK⟩ := id cx
  have hl : lv_has ls 4 [(0, .ref h_t), (1, .ref h_p1)] := hl
  have hS : va_S A s.heap s.heap [] := va_S.rf
  refine lv_iconst (v := (nI 0)) hx hb dX3_countTrees_0 (by decide) ?_
  refine lv_istore_n (lv' := [(2, .int (nI 0)), (0, .ref h_t), (1, .ref h_p1)]) hx hb dX3_countTrees_1 rfl hl (by decide) rfl (fun ls hl => ?_)
  refine lv_iconst (v := (nI 0)) hx hb dX3_countTrees_2 (by decide) ?_
  refine lv_istore_n (lv' := [(3, .int (nI 0)), (2, .int (nI 0)), (0, .ref h_t), (1, .ref h_p1)]) hx hb dX3_countTrees_3 rfl hl (by decide) rfl (fun ls hl => ?_)
  obtain ⟨r_4, hw, hM⟩ := bd_some hM
  obtain ⟨n, hn⟩ := wh_some hw
  clear hw
  have hE_4_0 : ∀ (H : Heap) (locs : List Loc) (ls : Array Slot), va_P (gD g) vwCl [ob h_t 3 [.ref h_t_groups, .ref h_t_sides], aI g h_t_groups 6 r_4.2.1, aI g h_t_sides 6 r_4.2.2, ob h_p1 2 [.int p1_vertices, .int p1_edges, .ref h_p1_firsts, .ref h_p1_seconds, .ref h_p1_signs], aI g h_p1_firsts 9 a_p1_firsts, aI g h_p1_seconds 9 a_p1_seconds, aI g h_p1_signs 9 a_p1_signs] H → va_D A [ob h_t 3 [.ref h_t_groups, .ref h_t_sides], aI g h_t_groups 6 r_4.2.1, aI g h_t_sides 6 r_4.2.2, ob h_p1 2 [.int p1_vertices, .int p1_edges, .ref h_p1_firsts, .ref h_p1_seconds, .ref h_p1_signs], aI g h_p1_firsts 9 a_p1_firsts, aI g h_p1_seconds 9 a_p1_seconds, aI g h_p1_signs 9 a_p1_signs] → va_S A s.heap H locs → lv_has ls 4 [(2, .int r_4.1)] → W p l e (rmv 3 73) s m args below meth c H locs 0 0 Q (F0 m 45 ls []) := by
    intro H locs ls hP hD hS hl
    refine lv_iload_n hx hb dX3_countTrees_45 rfl (lv_at hl 0 rfl) ?_
    obtain rfl := Option.some.inj hM
    exact hfin 46 _ _ _ dX3_countTrees_46 hP hD hS
  clear hM
  have hL_4 : ∀ (n : Nat) (z_4 : Int32 × Int32 × (Nat → Int32) × (Nat → Int32)), it (b_X3_countTrees_4 p1_vertices p1_edges a_p1_firsts a_p1_seconds a_p1_signs) n z_4 = some r_4 → ∀ (H : Heap) (locs : List Loc) (ls : Array Slot), va_P (gD g) vwCl [ob h_t 3 [.ref h_t_groups, .ref h_t_sides], aI g h_t_groups 6 z_4.2.2.1, aI g h_t_sides 6 z_4.2.2.2, ob h_p1 2 [.int p1_vertices, .int p1_edges, .ref h_p1_firsts, .ref h_p1_seconds, .ref h_p1_signs], aI g h_p1_firsts 9 a_p1_firsts, aI g h_p1_seconds 9 a_p1_seconds, aI g h_p1_signs 9 a_p1_signs] H → va_D A [ob h_t 3 [.ref h_t_groups, .ref h_t_sides], aI g h_t_groups 6 z_4.2.2.1, aI g h_t_sides 6 z_4.2.2.2, ob h_p1 2 [.int p1_vertices, .int p1_edges, .ref h_p1_firsts, .ref h_p1_seconds, .ref h_p1_signs], aI g h_p1_firsts 9 a_p1_firsts, aI g h_p1_seconds 9 a_p1_seconds, aI g h_p1_signs 9 a_p1_signs] → va_S A s.heap H locs → lv_has ls 4 [(3, .int z_4.1), (2, .int z_4.2.1), (0, .ref h_t), (1, .ref h_p1)] → W p l e (rmv 3 73) s m args below meth c H locs 0 0 Q (F0 m 4 ls []) := by
    intro n
    induction n with
    | zero => intro z_4 hn; exact (it_zero hn).elim
    | succ n ih =>
      intro z_4 hn H locs ls hP hD hS hl
      obtain ⟨x, hM, hX⟩ := it_succ hn
      clear hn
      refine lv_iload_n hx hb dX3_countTrees_4 rfl (lv_at hl 0 rfl) ?_
      refine lv_iconst (v := (nI 1)) hx hb dX3_countTrees_5 (by decide) ?_
      refine lv_aload_n hx hb dX3_countTrees_6 rfl (lv_at hl 3 rfl) ?_
      refine w_getN cx hP 3 2 1 rfl rfl (by decide) n_48 rfl rfl dX3_countTrees_7 ?_
      refine lv_ishl hx hb dX3_countTrees_10 ?_
      refine lv_icmp_ge (tgt := 45) hx hb dX3_countTrees_11 (by decide) (fun c_11 => ?_) (fun c_11 => ?_)
      · have hM := if_t hM c_11
        obtain rfl := Option.some.inj hM
        obtain rfl : _ = r_4 := hX
        exact hE_4_0 _ _ _ hP hD hS (lv_sub hl [1] rfl)
      · have hM := if_f hM c_11
        refine lv_iload_n hx hb dX3_countTrees_14 rfl (lv_at hl 0 rfl) ?_
        obtain ⟨q_15, hc_15, hM⟩ := bd_some hM
        refine w_callS cx hP hD hS hA (c_J6_bitCount_0f7a4 g l z_4.1 hc_15) [] rfl (by decide) rfl [ob h_t 3 [.ref h_t_groups, .ref h_t_sides], aI g h_t_groups 6 z_4.2.2.1, aI g h_t_sides 6 z_4.2.2.2, ob h_p1 2 [.int p1_vertices, .int p1_edges, .ref h_p1_firsts, .ref h_p1_seconds, .ref h_p1_signs], aI g h_p1_firsts 9 a_p1_firsts, aI g h_p1_seconds 9 a_p1_seconds, aI g h_p1_signs 9 a_p1_signs] rfl yq_J6_bitCount_0f7a4 m_623 m_531 m_27 m_532 ⟨Nat.le_of_ble_eq_true rfl, Nat.le_of_ble_eq_true rfl⟩ rfl rfl hl.1 (Nat.le_of_ble_eq_true rfl) dX3_countTrees_15 ⟨Nat.le_refl 0, Nat.le_refl 0⟩ rfl (fun H locs hP hD hS => ?_)
        refine lv_aload_n hx hb dX3_countTrees_18 rfl (lv_at hl 3 rfl) ?_
        refine w_getN cx hP 3 2 0 rfl rfl (by decide) n_44 rfl rfl dX3_countTrees_19 ?_
        refine lv_iconst (v := (nI 1)) hx hb dX3_countTrees_22 (by decide) ?_
        refine lv_isub hx hb dX3_countTrees_23 ?_
        refine lv_icmp_ne (tgt := 39) hx hb dX3_countTrees_24 (by decide) (fun c_24 => ?_) (fun c_24 => ?_)
        · have hM := if_f hM c_24
          refine lv_iinc (v := z_4.1 + (nI 1)) (lv' := [(3, .int (z_4.1 + (nI 1))), (2, .int z_4.2.1), (0, .ref h_t), (1, .ref h_p1)]) hx hb dX3_countTrees_39 hl (k := 0) rfl (congrArg (fun q => z_4.1 + q) (show Int32.ofInt (1) = (nI 1) by decide)) (by decide) rfl (fun ls hl => ?_)
          refine lv_goto (tgt := 4) hx hb dX3_countTrees_42 (by decide) ?_
          obtain rfl := Option.some.inj hM
          exact ih _ hX _ _ _ hP hD hS (lv_sub hl [0, 1, 2, 3] rfl)
        · have hM := if_t hM c_24
          refine lv_aload_n hx hb dX3_countTrees_27 rfl (lv_at hl 2 rfl) ?_
          refine lv_aload_n hx hb dX3_countTrees_28 rfl (lv_at hl 3 rfl) ?_
          refine lv_iload_n hx hb dX3_countTrees_29 rfl (lv_at hl 0 rfl) ?_
          obtain ⟨q_30, hc_30, hM⟩ := bd_some hM
          refine w_callV cx hP hD hS hA (c_X3_isForest g l h_t h_t_groups h_t_sides h_p1 h_p1_firsts h_p1_seconds h_p1_signs z_4.1 z_4.2.2.1 z_4.2.2.2 p1_vertices p1_edges a_p1_firsts a_p1_seconds a_p1_signs hc_30) [0, 1, 2, 3, 4, 5, 6] rfl (by decide) rfl [ob h_t 3 [.ref h_t_groups, .ref h_t_sides], aI g h_t_groups 6 q_30.2.1, aI g h_t_sides 6 q_30.2.2, ob h_p1 2 [.int p1_vertices, .int p1_edges, .ref h_p1_firsts, .ref h_p1_seconds, .ref h_p1_signs], aI g h_p1_firsts 9 a_p1_firsts, aI g h_p1_seconds 9 a_p1_seconds, aI g h_p1_signs 9 a_p1_signs] rfl 0 3 rfl rfl yq_X3_isForest rfl m_624 m_626 m_15 m_21 m_627 ⟨Nat.le_of_ble_eq_true rfl, Nat.le_of_ble_eq_true rfl⟩ rfl rfl hl.1 (Nat.le_of_ble_eq_true rfl) dX3_countTrees_30 ⟨Nat.le_refl 0, Nat.le_refl 0⟩ rfl (fun H locs hP hD hS => ?_)
          refine lv_if_eq (tgt := 39) hx hb dX3_countTrees_33 (by decide) (fun c_33 => ?_) (fun c_33 => ?_)
          · have hM := if_t hM c_33
            refine lv_iinc (v := z_4.1 + (nI 1)) (lv' := [(3, .int (z_4.1 + (nI 1))), (2, .int z_4.2.1), (0, .ref h_t), (1, .ref h_p1)]) hx hb dX3_countTrees_39 hl (k := 0) rfl (congrArg (fun q => z_4.1 + q) (show Int32.ofInt (1) = (nI 1) by decide)) (by decide) rfl (fun ls hl => ?_)
            refine lv_goto (tgt := 4) hx hb dX3_countTrees_42 (by decide) ?_
            obtain rfl := Option.some.inj hM
            exact ih _ hX _ _ _ hP hD hS (lv_sub hl [0, 1, 2, 3] rfl)
          · have hM := if_f hM c_33
            refine lv_iinc (v := z_4.2.1 + (nI 1)) (lv' := [(2, .int (z_4.2.1 + (nI 1))), (3, .int z_4.1), (0, .ref h_t), (1, .ref h_p1)]) hx hb dX3_countTrees_36 hl (k := 1) rfl (congrArg (fun q => z_4.2.1 + q) (show Int32.ofInt (1) = (nI 1) by decide)) (by decide) rfl (fun ls hl => ?_)
            refine lv_iinc (v := z_4.1 + (nI 1)) (lv' := [(3, .int (z_4.1 + (nI 1))), (2, .int (z_4.2.1 + (nI 1))), (0, .ref h_t), (1, .ref h_p1)]) hx hb dX3_countTrees_39 hl (k := 1) rfl (congrArg (fun q => z_4.1 + q) (show Int32.ofInt (1) = (nI 1) by decide)) (by decide) rfl (fun ls hl => ?_)
            refine lv_goto (tgt := 4) hx hb dX3_countTrees_42 (by decide) ?_
            obtain rfl := Option.some.inj hM
            exact ih _ hX _ _ _ hP hD hS (lv_sub hl [0, 1, 2, 3] rfl)
  exact hL_4 n _ hn _ _ _ hP hD hS (lv_sub hl [0, 1, 2, 3] rfl)
noncomputable def f_X1_append (p1 : Int32) (t_length : Int32) (t_stage : Int32) (t_first : Int32) (t_second : Int32) (t_sign : Int32) (a_t_characters : Nat → Int32) : Option (Int32 × (Nat → Int32)) :=
  if (nI 60) ≤ t_length then some (t_length, a_t_characters) else gd (inb t_length 60) (some ((t_length + (nI 1)), upd a_t_characters t_length.toNatClampNeg p1))
theorem yq_X1_append : yq yX1_append 1 := by unfold yq; decide +kernel
set_option maxHeartbeats 4000000 in
set_option maxRecDepth 100000 in
theorem c_X1_append (g : GG) (l : Launch) (h_t : Nat) (h_t_characters : Nat) (p1 : Int32) (t_length : Int32) (t_stage : Int32) (t_first : Int32) (t_second : Int32) (t_sign : Int32) (a_t_characters : Nat → Int32) {R : Int32 × (Nat → Int32)} (hM : f_X1_append p1 t_length t_stage t_first t_second t_sign a_t_characters = some R) : CT g l yX1_append cX1_append 2 none 0 0 [.ref h_t, .int p1] [ob h_t 1 [.int t_length, .ref h_t_characters, .int t_stage, .int t_first, .int t_second, .int t_sign], aI g h_t_characters 60 a_t_characters] [ob h_t 1 [.int R.1, .ref h_t_characters, .int t_stage, .int t_first, .int t_second, .int t_sign], aI g h_t_characters 60 R.2] none := by
  refine ct_v (by decide +kernel) (Nat.le_of_ble_eq_true rfl) ?_
  intro p e s m args below meth c Q A ls cx hP hD hA hl hfin
  obtain ⟨hx, hb, hml, hown, hts, hK⟩ := id cx
  have hl : lv_has ls 2 [(0, .ref h_t), (1, .int p1)] := hl
  have hS : va_S A s.heap s.heap [] := va_S.rf
  refine lv_aload_n hx hb dX1_append_0 rfl (lv_at hl 0 rfl) ?_
  refine w_get cx hP 0 1 0 rfl rfl (by decide) m_96 rfl rfl dX1_append_1 ?_
  refine lv_bipush (v := (nI 60)) hx hb dX1_append_4 (by decide) ?_
  refine lv_icmp_ge (tgt := 29) hx hb dX1_append_6 (by decide) (fun c_6 => ?_) (fun c_6 => ?_)
  · have hM := if_t hM c_6
    obtain rfl := Option.some.inj hM
    exact hfin 29 _ _ _ dX1_append_29 hP hD hS
  · have hM := if_f hM c_6
    refine lv_aload_n hx hb dX1_append_9 rfl (lv_at hl 0 rfl) ?_
    refine w_get cx hP 0 1 1 rfl rfl (by decide) m_98 rfl rfl dX1_append_10 ?_
    refine lv_aload_n hx hb dX1_append_13 rfl (lv_at hl 0 rfl) ?_
    refine w_get cx hP 0 1 0 rfl rfl (by decide) m_96 rfl rfl dX1_append_14 ?_
    refine lv_iload_n hx hb dX1_append_17 rfl (lv_at hl 1 rfl) ?_
    obtain ⟨g_18, hM⟩ := gd_some hM
    refine w_iast cx hP hD hS 1 rfl g_18 dX1_append_18 [ob h_t 1 [.int t_length, .ref h_t_characters, .int t_stage, .int t_first, .int t_second, .int t_sign], aI g h_t_characters 60 (upd a_t_characters t_length.toNatClampNeg p1)] rfl (fun H locs hP hD hS => ?_)
    refine lv_aload_n hx hb dX1_append_19 rfl (lv_at hl 0 rfl) ?_
    refine lv_dup hx hb dX1_append_20 rfl ?_
    refine w_get cx hP 0 1 0 rfl rfl (by decide) m_96 rfl rfl dX1_append_21 ?_
    refine lv_iconst (v := (nI 1)) hx hb dX1_append_24 (by decide) ?_
    refine lv_iadd hx hb dX1_append_25 ?_
    refine w_put cx hP hD hS 0 1 0 rfl rfl (by decide) m_96 rfl rfl rfl (Nat.le_of_ble_eq_true rfl) dX1_append_26 [ob h_t 1 [.int (t_length + (nI 1)), .ref h_t_characters, .int t_stage, .int t_first, .int t_second, .int t_sign], aI g h_t_characters 60 (upd a_t_characters t_length.toNatClampNeg p1)] rfl (fun H locs hP hD hS => ?_)
    obtain rfl := Option.some.inj hM
    exact hfin 29 _ _ _ dX1_append_29 hP hD hS
noncomputable def f_X1_acceptFirst (p1 : Int32) (t_length : Int32) (t_stage : Int32) (t_first : Int32) (t_second : Int32) (t_sign : Int32) (p2_vertices : Int32) (p2_edges : Int32) : Option (Int32 × Int32 × Int32) :=
  bd (f_X2_isFull p2_vertices p2_edges) (fun (q_1 : Int32) => if q_1 = 0 then bd (f_X2_hasVertex p1 p2_vertices p2_edges) (fun (q_9 : Int32) => if q_9 = 0 then some ((nI 0), t_stage, t_first) else some ((nI 1), (nI 1), p1)) else some ((nI 0), t_stage, t_first))
theorem yq_X1_acceptFirst : yq yX1_acceptFirst 2 := by unfold yq; decide +kernel
set_option maxHeartbeats 4000000 in
set_option maxRecDepth 100000 in
theorem c_X1_acceptFirst (g : GG) (l : Launch) (h_t : Nat) (h_t_characters : Nat) (h_p2 : Nat) (h_p2_firsts : Nat) (h_p2_seconds : Nat) (h_p2_signs : Nat) (p1 : Int32) (t_length : Int32) (t_stage : Int32) (t_first : Int32) (t_second : Int32) (t_sign : Int32) (p2_vertices : Int32) (p2_edges : Int32) {R : Int32 × Int32 × Int32} (hM : f_X1_acceptFirst p1 t_length t_stage t_first t_second t_sign p2_vertices p2_edges = some R) : CT g l yX1_acceptFirst cX1_acceptFirst 3 (some .boolean) 1 21 [.ref h_t, .int p1, .ref h_p2] [ob h_t 1 [.int t_length, .ref h_t_characters, .int t_stage, .int t_first, .int t_second, .int t_sign], ob h_p2 2 [.int p2_vertices, .int p2_edges, .ref h_p2_firsts, .ref h_p2_seconds, .ref h_p2_signs]] [ob h_t 1 [.int t_length, .ref h_t_characters, .int R.2.1, .int R.2.2, .int t_second, .int t_sign], ob h_p2 2 [.int p2_vertices, .int p2_edges, .ref h_p2_firsts, .ref h_p2_seconds, .ref h_p2_signs]] (some (.int R.1)) := by
  refine ct_z (by decide +kernel) (Nat.le_of_ble_eq_true rfl) ?_
  intro p e s m args below meth c Q A ls cx hP hD hA hl hfin
  obtain ⟨hx, hb, hml, hown, hts, hK⟩ := id cx
  have hl : lv_has ls 3 [(0, .ref h_t), (1, .int p1), (2, .ref h_p2)] := hl
  have hS : va_S A s.heap s.heap [] := va_S.rf
  refine lv_aload_n hx hb dX1_acceptFirst_0 rfl (lv_at hl 2 rfl) ?_
  obtain ⟨q_1, hc_1, hM⟩ := bd_some hM
  refine w_callV cx hP hD hS hA (c_X2_isFull g l h_p2 h_p2_firsts h_p2_seconds h_p2_signs p2_vertices p2_edges hc_1) [1] rfl (by decide) rfl [ob h_t 1 [.int t_length, .ref h_t_characters, .int t_stage, .int t_first, .int t_second, .int t_sign], ob h_p2 2 [.int p2_vertices, .int p2_edges, .ref h_p2_firsts, .ref h_p2_seconds, .ref h_p2_signs]] rfl 1 2 rfl rfl yq_X2_isFull rfl m_296 m_240 m_241 m_18 m_242 ⟨Nat.le_of_ble_eq_true rfl, Nat.le_of_ble_eq_true rfl⟩ rfl rfl hl.1 (Nat.le_of_ble_eq_true rfl) dX1_acceptFirst_1 ⟨Nat.le_refl 0, Nat.le_refl 0⟩ rfl (fun H locs hP hD hS => ?_)
  refine lv_if_ne (tgt := 15) hx hb dX1_acceptFirst_4 (by decide) (fun c_4 => ?_) (fun c_4 => ?_)
  · have hM := if_f hM c_4
    refine lv_iconst (v := (nI 0)) hx hb dX1_acceptFirst_15 (by decide) ?_
    have hz : bq (nI 0) = true := by decide
    obtain rfl := Option.some.inj hM
    exact hfin 16 _ _ _ dX1_acceptFirst_16 hz hP hD hS
  · have hM := if_t hM c_4
    refine lv_aload_n hx hb dX1_acceptFirst_7 rfl (lv_at hl 2 rfl) ?_
    refine lv_iload_n hx hb dX1_acceptFirst_8 rfl (lv_at hl 1 rfl) ?_
    obtain ⟨q_9, hc_9, hM⟩ := bd_some hM
    refine w_callV cx hP hD hS hA (c_X2_hasVertex g l h_p2 h_p2_firsts h_p2_seconds h_p2_signs p1 p2_vertices p2_edges hc_9) [1] rfl (by decide) rfl [ob h_t 1 [.int t_length, .ref h_t_characters, .int t_stage, .int t_first, .int t_second, .int t_sign], ob h_p2 2 [.int p2_vertices, .int p2_edges, .ref h_p2_firsts, .ref h_p2_seconds, .ref h_p2_signs]] rfl 1 2 rfl rfl yq_X2_hasVertex rfl m_297 m_236 m_237 m_18 m_238 ⟨Nat.le_of_ble_eq_true rfl, Nat.le_of_ble_eq_true rfl⟩ rfl rfl hl.1 (Nat.le_of_ble_eq_true rfl) dX1_acceptFirst_9 ⟨Nat.le_refl 0, Nat.le_refl 0⟩ rfl (fun H locs hP hD hS => ?_)
    refine lv_if_ne (tgt := 17) hx hb dX1_acceptFirst_12 (by decide) (fun c_12 => ?_) (fun c_12 => ?_)
    · have hM := if_f hM c_12
      refine lv_aload_n hx hb dX1_acceptFirst_17 rfl (lv_at hl 0 rfl) ?_
      refine lv_iload_n hx hb dX1_acceptFirst_18 rfl (lv_at hl 1 rfl) ?_
      refine w_put cx hP hD hS 0 1 3 rfl rfl (by decide) m_100 rfl rfl rfl (Nat.le_of_ble_eq_true rfl) dX1_acceptFirst_19 [ob h_t 1 [.int t_length, .ref h_t_characters, .int t_stage, .int p1, .int t_second, .int t_sign], ob h_p2 2 [.int p2_vertices, .int p2_edges, .ref h_p2_firsts, .ref h_p2_seconds, .ref h_p2_signs]] rfl (fun H locs hP hD hS => ?_)
      refine lv_aload_n hx hb dX1_acceptFirst_22 rfl (lv_at hl 0 rfl) ?_
      refine lv_iconst (v := (nI 1)) hx hb dX1_acceptFirst_23 (by decide) ?_
      refine w_put cx hP hD hS 0 1 2 rfl rfl (by decide) m_99 rfl rfl rfl (Nat.le_of_ble_eq_true rfl) dX1_acceptFirst_24 [ob h_t 1 [.int t_length, .ref h_t_characters, .int (nI 1), .int p1, .int t_second, .int t_sign], ob h_p2 2 [.int p2_vertices, .int p2_edges, .ref h_p2_firsts, .ref h_p2_seconds, .ref h_p2_signs]] rfl (fun H locs hP hD hS => ?_)
      refine lv_iconst (v := (nI 1)) hx hb dX1_acceptFirst_27 (by decide) ?_
      have hz : bq (nI 1) = true := by decide
      obtain rfl := Option.some.inj hM
      exact hfin 28 _ _ _ dX1_acceptFirst_28 hz hP hD hS
    · have hM := if_t hM c_12
      refine lv_iconst (v := (nI 0)) hx hb dX1_acceptFirst_15 (by decide) ?_
      have hz : bq (nI 0) = true := by decide
      obtain rfl := Option.some.inj hM
      exact hfin 16 _ _ _ dX1_acceptFirst_16 hz hP hD hS
noncomputable def f_X1_acceptSign (p1 : Int32) (t_length : Int32) (t_stage : Int32) (t_first : Int32) (t_second : Int32) (t_sign : Int32) : Option (Int32 × Int32 × Int32) :=
  if p1 = (nI 45) then bd (if p1 = (nI 45) then some (nI 1) else some (nI 4294967295)) (fun (j_18 : Int32) => some ((nI 1), (nI 2), j_18)) else if p1 = (nI 126) then bd (if p1 = (nI 45) then some (nI 1) else some (nI 4294967295)) (fun (j_18 : Int32) => some ((nI 1), (nI 2), j_18)) else some ((nI 0), t_stage, t_sign)
theorem yq_X1_acceptSign : yq yX1_acceptSign 1 := by unfold yq; decide +kernel
set_option maxHeartbeats 4000000 in
set_option maxRecDepth 100000 in
theorem c_X1_acceptSign (g : GG) (l : Launch) (h_t : Nat) (h_t_characters : Nat) (p1 : Int32) (t_length : Int32) (t_stage : Int32) (t_first : Int32) (t_second : Int32) (t_sign : Int32) {R : Int32 × Int32 × Int32} (hM : f_X1_acceptSign p1 t_length t_stage t_first t_second t_sign = some R) : CT g l yX1_acceptSign cX1_acceptSign 2 (some .boolean) 0 0 [.ref h_t, .int p1] [ob h_t 1 [.int t_length, .ref h_t_characters, .int t_stage, .int t_first, .int t_second, .int t_sign]] [ob h_t 1 [.int t_length, .ref h_t_characters, .int R.2.1, .int t_first, .int t_second, .int R.2.2]] (some (.int R.1)) := by
  refine ct_z (by decide +kernel) (Nat.le_of_ble_eq_true rfl) ?_
  intro p e s m args below meth c Q A ls cx hP hD hA hl hfin
  obtain ⟨hx, hb, hml, hown, hts, hK⟩ := id cx
  have hl : lv_has ls 2 [(0, .ref h_t), (1, .int p1)] := hl
  have hS : va_S A s.heap s.heap [] := va_S.rf
  refine lv_iload_n hx hb dX1_acceptSign_0 rfl (lv_at hl 1 rfl) ?_
  refine lv_bipush (v := (nI 45)) hx hb dX1_acceptSign_1 (by decide) ?_
  refine lv_icmp_eq (tgt := 14) hx hb dX1_acceptSign_3 (by decide) (fun c_3 => ?_) (fun c_3 => ?_)
  · have hM := if_t hM c_3
    refine lv_aload_n hx hb dX1_acceptSign_14 rfl (lv_at hl 0 rfl) ?_
    refine lv_iload_n hx hb dX1_acceptSign_15 rfl (lv_at hl 1 rfl) ?_
    refine lv_bipush (v := (nI 45)) hx hb dX1_acceptSign_16 (by decide) ?_
    obtain ⟨j_18, hB, hM⟩ := bd_some hM
    have hJ_18 : ∀ (H : Heap) (locs : List Loc) (ls : Array Slot), va_P (gD g) vwCl [ob h_t 1 [.int t_length, .ref h_t_characters, .int t_stage, .int t_first, .int t_second, .int t_sign]] H → va_D A [ob h_t 1 [.int t_length, .ref h_t_characters, .int t_stage, .int t_first, .int t_second, .int t_sign]] → va_S A s.heap H locs → lv_has ls 2 [(0, .ref h_t)] → W p l e (rmv 0 0) s m args below meth c H locs 0 0 Q (F0 m 26 ls [.int j_18, .ref h_t]) := by
      intro H locs ls hP hD hS hl
      refine w_put cx hP hD hS 0 1 5 rfl rfl (by decide) m_102 rfl rfl rfl (Nat.le_of_ble_eq_true rfl) dX1_acceptSign_26 [ob h_t 1 [.int t_length, .ref h_t_characters, .int t_stage, .int t_first, .int t_second, .int j_18]] rfl (fun H locs hP hD hS => ?_)
      refine lv_aload_n hx hb dX1_acceptSign_29 rfl (lv_at hl 0 rfl) ?_
      refine lv_iconst (v := (nI 2)) hx hb dX1_acceptSign_30 (by decide) ?_
      refine w_put cx hP hD hS 0 1 2 rfl rfl (by decide) m_99 rfl rfl rfl (Nat.le_of_ble_eq_true rfl) dX1_acceptSign_31 [ob h_t 1 [.int t_length, .ref h_t_characters, .int (nI 2), .int t_first, .int t_second, .int j_18]] rfl (fun H locs hP hD hS => ?_)
      refine lv_iconst (v := (nI 1)) hx hb dX1_acceptSign_34 (by decide) ?_
      have hz : bq (nI 1) = true := by decide
      obtain rfl := Option.some.inj hM
      exact hfin 35 _ _ _ dX1_acceptSign_35 hz hP hD hS
    clear hM
    have hM := hB
    clear hB
    refine lv_icmp_ne (tgt := 25) hx hb dX1_acceptSign_18 (by decide) (fun c_18 => ?_) (fun c_18 => ?_)
    · have hM := if_f hM c_18
      refine lv_iconst (v := (nI 4294967295)) hx hb dX1_acceptSign_25 (by decide) ?_
      obtain rfl := Option.some.inj hM
      exact hJ_18 _ _ _ hP hD hS (lv_sub hl [0] rfl)
    · have hM := if_t hM c_18
      refine lv_iconst (v := (nI 1)) hx hb dX1_acceptSign_21 (by decide) ?_
      refine lv_goto (tgt := 26) hx hb dX1_acceptSign_22 (by decide) ?_
      obtain rfl := Option.some.inj hM
      exact hJ_18 _ _ _ hP hD hS (lv_sub hl [0] rfl)
  · have hM := if_f hM c_3
    refine lv_iload_n hx hb dX1_acceptSign_6 rfl (lv_at hl 1 rfl) ?_
    refine lv_bipush (v := (nI 126)) hx hb dX1_acceptSign_7 (by decide) ?_
    refine lv_icmp_eq (tgt := 14) hx hb dX1_acceptSign_9 (by decide) (fun c_9 => ?_) (fun c_9 => ?_)
    · have hM := if_t hM c_9
      refine lv_aload_n hx hb dX1_acceptSign_14 rfl (lv_at hl 0 rfl) ?_
      refine lv_iload_n hx hb dX1_acceptSign_15 rfl (lv_at hl 1 rfl) ?_
      refine lv_bipush (v := (nI 45)) hx hb dX1_acceptSign_16 (by decide) ?_
      obtain ⟨j_18, hB, hM⟩ := bd_some hM
      have hJ_18 : ∀ (H : Heap) (locs : List Loc) (ls : Array Slot), va_P (gD g) vwCl [ob h_t 1 [.int t_length, .ref h_t_characters, .int t_stage, .int t_first, .int t_second, .int t_sign]] H → va_D A [ob h_t 1 [.int t_length, .ref h_t_characters, .int t_stage, .int t_first, .int t_second, .int t_sign]] → va_S A s.heap H locs → lv_has ls 2 [(0, .ref h_t)] → W p l e (rmv 0 0) s m args below meth c H locs 0 0 Q (F0 m 26 ls [.int j_18, .ref h_t]) := by
        intro H locs ls hP hD hS hl
        refine w_put cx hP hD hS 0 1 5 rfl rfl (by decide) m_102 rfl rfl rfl (Nat.le_of_ble_eq_true rfl) dX1_acceptSign_26 [ob h_t 1 [.int t_length, .ref h_t_characters, .int t_stage, .int t_first, .int t_second, .int j_18]] rfl (fun H locs hP hD hS => ?_)
        refine lv_aload_n hx hb dX1_acceptSign_29 rfl (lv_at hl 0 rfl) ?_
        refine lv_iconst (v := (nI 2)) hx hb dX1_acceptSign_30 (by decide) ?_
        refine w_put cx hP hD hS 0 1 2 rfl rfl (by decide) m_99 rfl rfl rfl (Nat.le_of_ble_eq_true rfl) dX1_acceptSign_31 [ob h_t 1 [.int t_length, .ref h_t_characters, .int (nI 2), .int t_first, .int t_second, .int j_18]] rfl (fun H locs hP hD hS => ?_)
        refine lv_iconst (v := (nI 1)) hx hb dX1_acceptSign_34 (by decide) ?_
        have hz : bq (nI 1) = true := by decide
        obtain rfl := Option.some.inj hM
        exact hfin 35 _ _ _ dX1_acceptSign_35 hz hP hD hS
      clear hM
      have hM := hB
      clear hB
      refine lv_icmp_ne (tgt := 25) hx hb dX1_acceptSign_18 (by decide) (fun c_18 => ?_) (fun c_18 => ?_)
      · have hM := if_f hM c_18
        refine lv_iconst (v := (nI 4294967295)) hx hb dX1_acceptSign_25 (by decide) ?_
        obtain rfl := Option.some.inj hM
        exact hJ_18 _ _ _ hP hD hS (lv_sub hl [0] rfl)
      · have hM := if_t hM c_18
        refine lv_iconst (v := (nI 1)) hx hb dX1_acceptSign_21 (by decide) ?_
        refine lv_goto (tgt := 26) hx hb dX1_acceptSign_22 (by decide) ?_
        obtain rfl := Option.some.inj hM
        exact hJ_18 _ _ _ hP hD hS (lv_sub hl [0] rfl)
    · have hM := if_f hM c_9
      refine lv_iconst (v := (nI 0)) hx hb dX1_acceptSign_12 (by decide) ?_
      have hz : bq (nI 0) = true := by decide
      obtain rfl := Option.some.inj hM
      exact hfin 13 _ _ _ dX1_acceptSign_13 hz hP hD hS
noncomputable def f_X1_acceptSecond (p1 : Int32) (t_length : Int32) (t_stage : Int32) (t_first : Int32) (t_second : Int32) (t_sign : Int32) (p2_vertices : Int32) (p2_edges : Int32) : Option (Int32 × Int32 × Int32) :=
  if p1 = t_first then some ((nI 0), t_stage, t_second) else bd (f_X2_hasVertex p1 p2_vertices p2_edges) (fun (q_10 : Int32) => if q_10 = 0 then some ((nI 0), t_stage, t_second) else some ((nI 1), (nI 3), p1))
theorem yq_X1_acceptSecond : yq yX1_acceptSecond 2 := by unfold yq; decide +kernel
set_option maxHeartbeats 4000000 in
set_option maxRecDepth 100000 in
theorem c_X1_acceptSecond (g : GG) (l : Launch) (h_t : Nat) (h_t_characters : Nat) (h_p2 : Nat) (h_p2_firsts : Nat) (h_p2_seconds : Nat) (h_p2_signs : Nat) (p1 : Int32) (t_length : Int32) (t_stage : Int32) (t_first : Int32) (t_second : Int32) (t_sign : Int32) (p2_vertices : Int32) (p2_edges : Int32) {R : Int32 × Int32 × Int32} (hM : f_X1_acceptSecond p1 t_length t_stage t_first t_second t_sign p2_vertices p2_edges = some R) : CT g l yX1_acceptSecond cX1_acceptSecond 3 (some .boolean) 1 21 [.ref h_t, .int p1, .ref h_p2] [ob h_t 1 [.int t_length, .ref h_t_characters, .int t_stage, .int t_first, .int t_second, .int t_sign], ob h_p2 2 [.int p2_vertices, .int p2_edges, .ref h_p2_firsts, .ref h_p2_seconds, .ref h_p2_signs]] [ob h_t 1 [.int t_length, .ref h_t_characters, .int R.2.1, .int t_first, .int R.2.2, .int t_sign], ob h_p2 2 [.int p2_vertices, .int p2_edges, .ref h_p2_firsts, .ref h_p2_seconds, .ref h_p2_signs]] (some (.int R.1)) := by
  refine ct_z (by decide +kernel) (Nat.le_of_ble_eq_true rfl) ?_
  intro p e s m args below meth c Q A ls cx hP hD hA hl hfin
  obtain ⟨hx, hb, hml, hown, hts, hK⟩ := id cx
  have hl : lv_has ls 3 [(0, .ref h_t), (1, .int p1), (2, .ref h_p2)] := hl
  have hS : va_S A s.heap s.heap [] := va_S.rf
  refine lv_iload_n hx hb dX1_acceptSecond_0 rfl (lv_at hl 1 rfl) ?_
  refine lv_aload_n hx hb dX1_acceptSecond_1 rfl (lv_at hl 0 rfl) ?_
  refine w_get cx hP 0 1 3 rfl rfl (by decide) m_100 rfl rfl dX1_acceptSecond_2 ?_
  refine lv_icmp_eq (tgt := 16) hx hb dX1_acceptSecond_5 (by decide) (fun c_5 => ?_) (fun c_5 => ?_)
  · have hM := if_t hM c_5
    refine lv_iconst (v := (nI 0)) hx hb dX1_acceptSecond_16 (by decide) ?_
    have hz : bq (nI 0) = true := by decide
    obtain rfl := Option.some.inj hM
    exact hfin 17 _ _ _ dX1_acceptSecond_17 hz hP hD hS
  · have hM := if_f hM c_5
    refine lv_aload_n hx hb dX1_acceptSecond_8 rfl (lv_at hl 2 rfl) ?_
    refine lv_iload_n hx hb dX1_acceptSecond_9 rfl (lv_at hl 1 rfl) ?_
    obtain ⟨q_10, hc_10, hM⟩ := bd_some hM
    refine w_callV cx hP hD hS hA (c_X2_hasVertex g l h_p2 h_p2_firsts h_p2_seconds h_p2_signs p1 p2_vertices p2_edges hc_10) [1] rfl (by decide) rfl [ob h_t 1 [.int t_length, .ref h_t_characters, .int t_stage, .int t_first, .int t_second, .int t_sign], ob h_p2 2 [.int p2_vertices, .int p2_edges, .ref h_p2_firsts, .ref h_p2_seconds, .ref h_p2_signs]] rfl 1 2 rfl rfl yq_X2_hasVertex rfl m_297 m_236 m_237 m_18 m_238 ⟨Nat.le_of_ble_eq_true rfl, Nat.le_of_ble_eq_true rfl⟩ rfl rfl hl.1 (Nat.le_of_ble_eq_true rfl) dX1_acceptSecond_10 ⟨Nat.le_refl 0, Nat.le_refl 0⟩ rfl (fun H locs hP hD hS => ?_)
    refine lv_if_ne (tgt := 18) hx hb dX1_acceptSecond_13 (by decide) (fun c_13 => ?_) (fun c_13 => ?_)
    · have hM := if_f hM c_13
      refine lv_aload_n hx hb dX1_acceptSecond_18 rfl (lv_at hl 0 rfl) ?_
      refine lv_iload_n hx hb dX1_acceptSecond_19 rfl (lv_at hl 1 rfl) ?_
      refine w_put cx hP hD hS 0 1 4 rfl rfl (by decide) m_101 rfl rfl rfl (Nat.le_of_ble_eq_true rfl) dX1_acceptSecond_20 [ob h_t 1 [.int t_length, .ref h_t_characters, .int t_stage, .int t_first, .int p1, .int t_sign], ob h_p2 2 [.int p2_vertices, .int p2_edges, .ref h_p2_firsts, .ref h_p2_seconds, .ref h_p2_signs]] rfl (fun H locs hP hD hS => ?_)
      refine lv_aload_n hx hb dX1_acceptSecond_23 rfl (lv_at hl 0 rfl) ?_
      refine lv_iconst (v := (nI 3)) hx hb dX1_acceptSecond_24 (by decide) ?_
      refine w_put cx hP hD hS 0 1 2 rfl rfl (by decide) m_99 rfl rfl rfl (Nat.le_of_ble_eq_true rfl) dX1_acceptSecond_25 [ob h_t 1 [.int t_length, .ref h_t_characters, .int (nI 3), .int t_first, .int p1, .int t_sign], ob h_p2 2 [.int p2_vertices, .int p2_edges, .ref h_p2_firsts, .ref h_p2_seconds, .ref h_p2_signs]] rfl (fun H locs hP hD hS => ?_)
      refine lv_iconst (v := (nI 1)) hx hb dX1_acceptSecond_28 (by decide) ?_
      have hz : bq (nI 1) = true := by decide
      obtain rfl := Option.some.inj hM
      exact hfin 29 _ _ _ dX1_acceptSecond_29 hz hP hD hS
    · have hM := if_t hM c_13
      refine lv_iconst (v := (nI 0)) hx hb dX1_acceptSecond_16 (by decide) ?_
      have hz : bq (nI 0) = true := by decide
      obtain rfl := Option.some.inj hM
      exact hfin 17 _ _ _ dX1_acceptSecond_17 hz hP hD hS
noncomputable def f_X1_acceptEnd (p1 : Int32) (t_length : Int32) (t_stage : Int32) (t_first : Int32) (t_second : Int32) (t_sign : Int32) (p2_vertices : Int32) (p2_edges : Int32) (a_p2_firsts : Nat → Int32) (a_p2_seconds : Nat → Int32) (a_p2_signs : Nat → Int32) : Option (Int32 × Int32 × Int32 × (Nat → Int32) × (Nat → Int32) × (Nat → Int32)) :=
  if p1 = (nI 59) then bd (f_X2_append t_first t_second t_sign p2_vertices p2_edges a_p2_firsts a_p2_seconds a_p2_signs) (fun (q_21 : Int32 × (Nat → Int32) × (Nat → Int32) × (Nat → Int32)) => some ((nI 1), (nI 0), q_21.1, q_21.2.1, q_21.2.2.1, q_21.2.2.2)) else some ((nI 0), t_stage, p2_edges, a_p2_firsts, a_p2_seconds, a_p2_signs)
theorem yq_X1_acceptEnd : yq yX1_acceptEnd 2 := by unfold yq; decide +kernel
set_option maxHeartbeats 4000000 in
set_option maxRecDepth 100000 in
theorem c_X1_acceptEnd (g : GG) (l : Launch) (h_t : Nat) (h_t_characters : Nat) (h_p2 : Nat) (h_p2_firsts : Nat) (h_p2_seconds : Nat) (h_p2_signs : Nat) (p1 : Int32) (t_length : Int32) (t_stage : Int32) (t_first : Int32) (t_second : Int32) (t_sign : Int32) (p2_vertices : Int32) (p2_edges : Int32) (a_p2_firsts : Nat → Int32) (a_p2_seconds : Nat → Int32) (a_p2_signs : Nat → Int32) {R : Int32 × Int32 × Int32 × (Nat → Int32) × (Nat → Int32) × (Nat → Int32)} (hM : f_X1_acceptEnd p1 t_length t_stage t_first t_second t_sign p2_vertices p2_edges a_p2_firsts a_p2_seconds a_p2_signs = some R) : CT g l yX1_acceptEnd cX1_acceptEnd 3 (some .boolean) 2 43 [.ref h_t, .int p1, .ref h_p2] [ob h_t 1 [.int t_length, .ref h_t_characters, .int t_stage, .int t_first, .int t_second, .int t_sign], ob h_p2 2 [.int p2_vertices, .int p2_edges, .ref h_p2_firsts, .ref h_p2_seconds, .ref h_p2_signs], aI g h_p2_firsts 9 a_p2_firsts, aI g h_p2_seconds 9 a_p2_seconds, aI g h_p2_signs 9 a_p2_signs] [ob h_t 1 [.int t_length, .ref h_t_characters, .int R.2.1, .int t_first, .int t_second, .int t_sign], ob h_p2 2 [.int p2_vertices, .int R.2.2.1, .ref h_p2_firsts, .ref h_p2_seconds, .ref h_p2_signs], aI g h_p2_firsts 9 R.2.2.2.1, aI g h_p2_seconds 9 R.2.2.2.2.1, aI g h_p2_signs 9 R.2.2.2.2.2] (some (.int R.1)) := by
  refine ct_z (by decide +kernel) (Nat.le_of_ble_eq_true rfl) ?_
  intro p e s m args below meth c Q A ls cx hP hD hA hl hfin
  obtain ⟨hx, hb, hml, hown, hts, hK⟩ := id cx
  have hl : lv_has ls 3 [(0, .ref h_t), (1, .int p1), (2, .ref h_p2)] := hl
  have hS : va_S A s.heap s.heap [] := va_S.rf
  refine lv_iload_n hx hb dX1_acceptEnd_0 rfl (lv_at hl 1 rfl) ?_
  refine lv_bipush (v := (nI 59)) hx hb dX1_acceptEnd_1 (by decide) ?_
  refine lv_icmp_eq (tgt := 8) hx hb dX1_acceptEnd_3 (by decide) (fun c_3 => ?_) (fun c_3 => ?_)
  · have hM := if_t hM c_3
    refine lv_aload_n hx hb dX1_acceptEnd_8 rfl (lv_at hl 2 rfl) ?_
    refine lv_aload_n hx hb dX1_acceptEnd_9 rfl (lv_at hl 0 rfl) ?_
    refine w_get cx hP 0 1 3 rfl rfl (by decide) m_100 rfl rfl dX1_acceptEnd_10 ?_
    refine lv_aload_n hx hb dX1_acceptEnd_13 rfl (lv_at hl 0 rfl) ?_
    refine w_get cx hP 0 1 4 rfl rfl (by decide) m_101 rfl rfl dX1_acceptEnd_14 ?_
    refine lv_aload_n hx hb dX1_acceptEnd_17 rfl (lv_at hl 0 rfl) ?_
    refine w_get cx hP 0 1 5 rfl rfl (by decide) m_102 rfl rfl dX1_acceptEnd_18 ?_
    obtain ⟨q_21, hc_21, hM⟩ := bd_some hM
    refine w_callV cx hP hD hS hA (c_X2_append g l h_p2 h_p2_firsts h_p2_seconds h_p2_signs t_first t_second t_sign p2_vertices p2_edges a_p2_firsts a_p2_seconds a_p2_signs hc_21) [1, 2, 3, 4] rfl (by decide) rfl [ob h_t 1 [.int t_length, .ref h_t_characters, .int t_stage, .int t_first, .int t_second, .int t_sign], ob h_p2 2 [.int p2_vertices, .int q_21.1, .ref h_p2_firsts, .ref h_p2_seconds, .ref h_p2_signs], aI g h_p2_firsts 9 q_21.2.1, aI g h_p2_seconds 9 q_21.2.2.1, aI g h_p2_signs 9 q_21.2.2.2] rfl 1 2 rfl rfl yq_X2_append rfl m_310 m_256 m_257 m_18 m_258 ⟨Nat.le_of_ble_eq_true rfl, Nat.le_of_ble_eq_true rfl⟩ rfl rfl hl.1 (Nat.le_of_ble_eq_true rfl) dX1_acceptEnd_21 ⟨Nat.le_refl 0, Nat.le_refl 0⟩ rfl (fun H locs hP hD hS => ?_)
    refine lv_aload_n hx hb dX1_acceptEnd_24 rfl (lv_at hl 0 rfl) ?_
    refine lv_iconst (v := (nI 0)) hx hb dX1_acceptEnd_25 (by decide) ?_
    refine w_put cx hP hD hS 0 1 2 rfl rfl (by decide) m_99 rfl rfl rfl (Nat.le_of_ble_eq_true rfl) dX1_acceptEnd_26 [ob h_t 1 [.int t_length, .ref h_t_characters, .int (nI 0), .int t_first, .int t_second, .int t_sign], ob h_p2 2 [.int p2_vertices, .int q_21.1, .ref h_p2_firsts, .ref h_p2_seconds, .ref h_p2_signs], aI g h_p2_firsts 9 q_21.2.1, aI g h_p2_seconds 9 q_21.2.2.1, aI g h_p2_signs 9 q_21.2.2.2] rfl (fun H locs hP hD hS => ?_)
    refine lv_iconst (v := (nI 1)) hx hb dX1_acceptEnd_29 (by decide) ?_
    have hz : bq (nI 1) = true := by decide
    obtain rfl := Option.some.inj hM
    exact hfin 30 _ _ _ dX1_acceptEnd_30 hz hP hD hS
  · have hM := if_f hM c_3
    refine lv_iconst (v := (nI 0)) hx hb dX1_acceptEnd_6 (by decide) ?_
    have hz : bq (nI 0) = true := by decide
    obtain rfl := Option.some.inj hM
    exact hfin 7 _ _ _ dX1_acceptEnd_7 hz hP hD hS
noncomputable def f_X1_accept (p1 : Int32) (t_length : Int32) (t_stage : Int32) (t_first : Int32) (t_second : Int32) (t_sign : Int32) (p2_vertices : Int32) (p2_edges : Int32) (a_p2_firsts : Nat → Int32) (a_p2_seconds : Nat → Int32) (a_p2_signs : Nat → Int32) : Option (Int32 × Int32 × Int32 × Int32 × Int32 × Int32 × (Nat → Int32) × (Nat → Int32) × (Nat → Int32)) :=
  if t_stage = (nI 0) then bd (f_X1_acceptFirst (p1 - (nI 48)) t_length t_stage t_first t_second t_sign p2_vertices p2_edges) (fun (q_38 : Int32 × Int32 × Int32) => gd (bq q_38.1) (some (q_38.1, q_38.2.1, q_38.2.2, t_second, t_sign, p2_edges, a_p2_firsts, a_p2_seconds, a_p2_signs))) else if t_stage = (nI 1) then bd (f_X1_acceptSign p1 t_length t_stage t_first t_second t_sign) (fun (q_44 : Int32 × Int32 × Int32) => gd (bq q_44.1) (some (q_44.1, q_44.2.1, t_first, t_second, q_44.2.2, p2_edges, a_p2_firsts, a_p2_seconds, a_p2_signs))) else if t_stage = (nI 2) then bd (f_X1_acceptSecond (p1 - (nI 48)) t_length t_stage t_first t_second t_sign p2_vertices p2_edges) (fun (q_54 : Int32 × Int32 × Int32) => gd (bq q_54.1) (some (q_54.1, q_54.2.1, t_first, q_54.2.2, t_sign, p2_edges, a_p2_firsts, a_p2_seconds, a_p2_signs))) else bd (f_X1_acceptEnd p1 t_length t_stage t_first t_second t_sign p2_vertices p2_edges a_p2_firsts a_p2_seconds a_p2_signs) (fun (q_61 : Int32 × Int32 × Int32 × (Nat → Int32) × (Nat → Int32) × (Nat → Int32)) => gd (bq q_61.1) (some (q_61.1, q_61.2.1, t_first, t_second, t_sign, q_61.2.2.1, q_61.2.2.2.1, q_61.2.2.2.2.1, q_61.2.2.2.2.2)))
theorem yq_X1_accept : yq yX1_accept 2 := by unfold yq; decide +kernel
set_option maxHeartbeats 4000000 in
set_option maxRecDepth 100000 in
theorem c_X1_accept (g : GG) (l : Launch) (h_t : Nat) (h_t_characters : Nat) (h_p2 : Nat) (h_p2_firsts : Nat) (h_p2_seconds : Nat) (h_p2_signs : Nat) (p1 : Int32) (t_length : Int32) (t_stage : Int32) (t_first : Int32) (t_second : Int32) (t_sign : Int32) (p2_vertices : Int32) (p2_edges : Int32) (a_p2_firsts : Nat → Int32) (a_p2_seconds : Nat → Int32) (a_p2_signs : Nat → Int32) {R : Int32 × Int32 × Int32 × Int32 × Int32 × Int32 × (Nat → Int32) × (Nat → Int32) × (Nat → Int32)} (hM : f_X1_accept p1 t_length t_stage t_first t_second t_sign p2_vertices p2_edges a_p2_firsts a_p2_seconds a_p2_signs = some R) : CT g l yX1_accept cX1_accept 3 (some .boolean) 3 65 [.ref h_t, .int p1, .ref h_p2] [ob h_t 1 [.int t_length, .ref h_t_characters, .int t_stage, .int t_first, .int t_second, .int t_sign], ob h_p2 2 [.int p2_vertices, .int p2_edges, .ref h_p2_firsts, .ref h_p2_seconds, .ref h_p2_signs], aI g h_p2_firsts 9 a_p2_firsts, aI g h_p2_seconds 9 a_p2_seconds, aI g h_p2_signs 9 a_p2_signs] [ob h_t 1 [.int t_length, .ref h_t_characters, .int R.2.1, .int R.2.2.1, .int R.2.2.2.1, .int R.2.2.2.2.1], ob h_p2 2 [.int p2_vertices, .int R.2.2.2.2.2.1, .ref h_p2_firsts, .ref h_p2_seconds, .ref h_p2_signs], aI g h_p2_firsts 9 R.2.2.2.2.2.2.1, aI g h_p2_seconds 9 R.2.2.2.2.2.2.2.1, aI g h_p2_signs 9 R.2.2.2.2.2.2.2.2] (some (.int R.1)) := by
  refine ct_z (by decide +kernel) (Nat.le_of_ble_eq_true rfl) ?_
  intro p e s m args below meth c Q A ls cx hP hD hA hl hfin
  obtain ⟨hx, hb, hml, hown, hts, hK⟩ := id cx
  have hl : lv_has ls 3 [(0, .ref h_t), (1, .int p1), (2, .ref h_p2)] := hl
  have hS : va_S A s.heap s.heap [] := va_S.rf
  refine lv_aload_n hx hb dX1_accept_0 rfl (lv_at hl 0 rfl) ?_
  refine w_get cx hP 0 1 2 rfl rfl (by decide) m_99 rfl rfl dX1_accept_1 ?_
  by_cases c_4_0 : t_stage = (nI 0)
  · have hM := if_t hM c_4_0
    refine lv_tableIn (x := t_stage) (tgt := 32) hx hb dX1_accept_4 (off := 28) (by rw [c_4_0]; decide) (by rw [c_4_0]; decide) (by rw [c_4_0]; rfl) (by decide) ?_
    refine lv_aload_n hx hb dX1_accept_32 rfl (lv_at hl 0 rfl) ?_
    refine lv_iload_n hx hb dX1_accept_33 rfl (lv_at hl 1 rfl) ?_
    refine lv_bipush (v := (nI 48)) hx hb dX1_accept_34 (by decide) ?_
    refine lv_isub hx hb dX1_accept_36 ?_
    refine lv_aload_n hx hb dX1_accept_37 rfl (lv_at hl 2 rfl) ?_
    obtain ⟨q_38, hc_38, hM⟩ := bd_some hM
    refine w_callV cx hP hD hS hA (c_X1_acceptFirst g l h_t h_t_characters h_p2 h_p2_firsts h_p2_seconds h_p2_signs (p1 - (nI 48)) t_length t_stage t_first t_second t_sign p2_vertices p2_edges hc_38) [0, 1] rfl (by decide) rfl [ob h_t 1 [.int t_length, .ref h_t_characters, .int q_38.2.1, .int q_38.2.2, .int t_second, .int t_sign], ob h_p2 2 [.int p2_vertices, .int p2_edges, .ref h_p2_firsts, .ref h_p2_seconds, .ref h_p2_signs], aI g h_p2_firsts 9 a_p2_firsts, aI g h_p2_seconds 9 a_p2_seconds, aI g h_p2_signs 9 a_p2_signs] rfl 0 1 rfl rfl yq_X1_acceptFirst rfl m_292 m_294 m_2 m_20 m_295 ⟨Nat.le_of_ble_eq_true rfl, Nat.le_of_ble_eq_true rfl⟩ rfl rfl hl.1 (Nat.le_of_ble_eq_true rfl) dX1_accept_38 ⟨Nat.le_refl 0, Nat.le_refl 0⟩ rfl (fun H locs hP hD hS => ?_)
    obtain ⟨hz, hM⟩ := gd_some hM
    obtain rfl := Option.some.inj hM
    exact hfin 41 _ _ _ dX1_accept_41 hz hP hD hS
  have hM := if_f hM c_4_0
  by_cases c_4_1 : t_stage = (nI 1)
  · have hM := if_t hM c_4_1
    refine lv_tableIn (x := t_stage) (tgt := 42) hx hb dX1_accept_4 (off := 38) (by rw [c_4_1]; decide) (by rw [c_4_1]; decide) (by rw [c_4_1]; rfl) (by decide) ?_
    refine lv_aload_n hx hb dX1_accept_42 rfl (lv_at hl 0 rfl) ?_
    refine lv_iload_n hx hb dX1_accept_43 rfl (lv_at hl 1 rfl) ?_
    obtain ⟨q_44, hc_44, hM⟩ := bd_some hM
    refine w_callV cx hP hD hS hA (c_X1_acceptSign g l h_t h_t_characters p1 t_length t_stage t_first t_second t_sign hc_44) [0] rfl (by decide) rfl [ob h_t 1 [.int t_length, .ref h_t_characters, .int q_44.2.1, .int t_first, .int t_second, .int q_44.2.2], ob h_p2 2 [.int p2_vertices, .int p2_edges, .ref h_p2_firsts, .ref h_p2_seconds, .ref h_p2_signs], aI g h_p2_firsts 9 a_p2_firsts, aI g h_p2_seconds 9 a_p2_seconds, aI g h_p2_signs 9 a_p2_signs] rfl 0 1 rfl rfl yq_X1_acceptSign rfl m_298 m_300 m_3 m_20 m_301 ⟨Nat.le_of_ble_eq_true rfl, Nat.le_of_ble_eq_true rfl⟩ rfl rfl hl.1 (Nat.le_of_ble_eq_true rfl) dX1_accept_44 ⟨Nat.le_refl 0, Nat.le_refl 0⟩ rfl (fun H locs hP hD hS => ?_)
    obtain ⟨hz, hM⟩ := gd_some hM
    obtain rfl := Option.some.inj hM
    exact hfin 47 _ _ _ dX1_accept_47 hz hP hD hS
  have hM := if_f hM c_4_1
  by_cases c_4_2 : t_stage = (nI 2)
  · have hM := if_t hM c_4_2
    refine lv_tableIn (x := t_stage) (tgt := 48) hx hb dX1_accept_4 (off := 44) (by rw [c_4_2]; decide) (by rw [c_4_2]; decide) (by rw [c_4_2]; rfl) (by decide) ?_
    refine lv_aload_n hx hb dX1_accept_48 rfl (lv_at hl 0 rfl) ?_
    refine lv_iload_n hx hb dX1_accept_49 rfl (lv_at hl 1 rfl) ?_
    refine lv_bipush (v := (nI 48)) hx hb dX1_accept_50 (by decide) ?_
    refine lv_isub hx hb dX1_accept_52 ?_
    refine lv_aload_n hx hb dX1_accept_53 rfl (lv_at hl 2 rfl) ?_
    obtain ⟨q_54, hc_54, hM⟩ := bd_some hM
    refine w_callV cx hP hD hS hA (c_X1_acceptSecond g l h_t h_t_characters h_p2 h_p2_firsts h_p2_seconds h_p2_signs (p1 - (nI 48)) t_length t_stage t_first t_second t_sign p2_vertices p2_edges hc_54) [0, 1] rfl (by decide) rfl [ob h_t 1 [.int t_length, .ref h_t_characters, .int q_54.2.1, .int t_first, .int q_54.2.2, .int t_sign], ob h_p2 2 [.int p2_vertices, .int p2_edges, .ref h_p2_firsts, .ref h_p2_seconds, .ref h_p2_signs], aI g h_p2_firsts 9 a_p2_firsts, aI g h_p2_seconds 9 a_p2_seconds, aI g h_p2_signs 9 a_p2_signs] rfl 0 1 rfl rfl yq_X1_acceptSecond rfl m_302 m_304 m_4 m_20 m_305 ⟨Nat.le_of_ble_eq_true rfl, Nat.le_of_ble_eq_true rfl⟩ rfl rfl hl.1 (Nat.le_of_ble_eq_true rfl) dX1_accept_54 ⟨Nat.le_refl 0, Nat.le_refl 0⟩ rfl (fun H locs hP hD hS => ?_)
    obtain ⟨hz, hM⟩ := gd_some hM
    obtain rfl := Option.some.inj hM
    exact hfin 57 _ _ _ dX1_accept_57 hz hP hD hS
  have hM := if_f hM c_4_2
  refine lv_tableOut (x := t_stage) (tgt := 58) hx hb dX1_accept_4 (ts_out3 c_4_0 c_4_1 c_4_2) (by decide) ?_
  refine lv_aload_n hx hb dX1_accept_58 rfl (lv_at hl 0 rfl) ?_
  refine lv_iload_n hx hb dX1_accept_59 rfl (lv_at hl 1 rfl) ?_
  refine lv_aload_n hx hb dX1_accept_60 rfl (lv_at hl 2 rfl) ?_
  obtain ⟨q_61, hc_61, hM⟩ := bd_some hM
  refine w_callV cx hP hD hS hA (c_X1_acceptEnd g l h_t h_t_characters h_p2 h_p2_firsts h_p2_seconds h_p2_signs p1 t_length t_stage t_first t_second t_sign p2_vertices p2_edges a_p2_firsts a_p2_seconds a_p2_signs hc_61) [0, 1, 2, 3, 4] rfl (by decide) rfl [ob h_t 1 [.int t_length, .ref h_t_characters, .int q_61.2.1, .int t_first, .int t_second, .int t_sign], ob h_p2 2 [.int p2_vertices, .int q_61.2.2.1, .ref h_p2_firsts, .ref h_p2_seconds, .ref h_p2_signs], aI g h_p2_firsts 9 q_61.2.2.2.1, aI g h_p2_seconds 9 q_61.2.2.2.2.1, aI g h_p2_signs 9 q_61.2.2.2.2.2] rfl 0 1 rfl rfl yq_X1_acceptEnd rfl m_306 m_308 m_5 m_20 m_309 ⟨Nat.le_of_ble_eq_true rfl, Nat.le_of_ble_eq_true rfl⟩ rfl rfl hl.1 (Nat.le_of_ble_eq_true rfl) dX1_accept_61 ⟨Nat.le_refl 0, Nat.le_refl 0⟩ rfl (fun H locs hP hD hS => ?_)
  obtain ⟨hz, hM⟩ := gd_some hM
  obtain rfl := Option.some.inj hM
  exact hfin 64 _ _ _ dX1_accept_64 hz hP hD hS
noncomputable def b_X1_readInto_7 (t_length : Int32) (a_t_characters : Nat → Int32) (p1_vertices : Int32) : Int32 × Int32 × Int32 × Int32 × Int32 × Int32 × (Nat → Int32) × (Nat → Int32) × (Nat → Int32) → Option ((Int32 × Int32 × Int32 × Int32 × Int32 × Int32 × (Nat → Int32) × (Nat → Int32) × (Nat → Int32)) ⊕ ((Int32 × Int32 × Int32 × Int32 × Int32 × Int32 × (Nat → Int32) × (Nat → Int32) × (Nat → Int32)) ⊕ (Int32 × Int32 × Int32 × Int32 × Int32 × (Nat → Int32) × (Nat → Int32) × (Nat → Int32)))) := fun z_7 =>
  if t_length ≤ z_7.1 then some (.inr (.inr (z_7.2.1, z_7.2.2.1, z_7.2.2.2.1, z_7.2.2.2.2.1, z_7.2.2.2.2.2.1, z_7.2.2.2.2.2.2.1, z_7.2.2.2.2.2.2.2.1, z_7.2.2.2.2.2.2.2.2))) else gd (inb z_7.1 60) (nm (a_t_characters z_7.1.toNatClampNeg) (fun (x_21 : Int32) => if x_21 = (nI 32) then some (.inl (z_7.1 + (nI 1), z_7.2.1, z_7.2.2.1, z_7.2.2.2.1, z_7.2.2.2.2.1, z_7.2.2.2.2.2.1, z_7.2.2.2.2.2.2.1, z_7.2.2.2.2.2.2.2.1, z_7.2.2.2.2.2.2.2.2)) else bd (f_X1_accept x_21 t_length z_7.2.1 z_7.2.2.1 z_7.2.2.2.1 z_7.2.2.2.2.1 p1_vertices z_7.2.2.2.2.2.1 z_7.2.2.2.2.2.2.1 z_7.2.2.2.2.2.2.2.1 z_7.2.2.2.2.2.2.2.2) (fun (q_31 : Int32 × Int32 × Int32 × Int32 × Int32 × Int32 × (Nat → Int32) × (Nat → Int32) × (Nat → Int32)) => if q_31.1 = 0 then some (.inr (.inl (z_7.1, q_31.2.1, q_31.2.2.1, q_31.2.2.2.1, q_31.2.2.2.2.1, q_31.2.2.2.2.2.1, q_31.2.2.2.2.2.2.1, q_31.2.2.2.2.2.2.2.1, q_31.2.2.2.2.2.2.2.2))) else some (.inl (z_7.1 + (nI 1), q_31.2.1, q_31.2.2.1, q_31.2.2.2.1, q_31.2.2.2.2.1, q_31.2.2.2.2.2.1, q_31.2.2.2.2.2.2.1, q_31.2.2.2.2.2.2.2.1, q_31.2.2.2.2.2.2.2.2)))))
noncomputable def f_X1_readInto (t_length : Int32) (t_stage : Int32) (t_first : Int32) (t_second : Int32) (t_sign : Int32) (a_t_characters : Nat → Int32) (p1_vertices : Int32) (p1_edges : Int32) (a_p1_firsts : Nat → Int32) (a_p1_seconds : Nat → Int32) (a_p1_signs : Nat → Int32) : Option (Int32 × Int32 × Int32 × Int32 × Int32 × Int32 × (Nat → Int32) × (Nat → Int32) × (Nat → Int32)) :=
  bd (wh (b_X1_readInto_7 t_length a_t_characters p1_vertices) ((nI 0), (nI 0), t_first, t_second, t_sign, p1_edges, a_p1_firsts, a_p1_seconds, a_p1_signs)) (fun (r_7 : (Int32 × Int32 × Int32 × Int32 × Int32 × Int32 × (Nat → Int32) × (Nat → Int32) × (Nat → Int32)) ⊕ (Int32 × Int32 × Int32 × Int32 × Int32 × (Nat → Int32) × (Nat → Int32) × (Nat → Int32))) => ex2 r_7 (fun (r_7_0 : Int32 × Int32 × Int32 × Int32 × Int32 × Int32 × (Nat → Int32) × (Nat → Int32) × (Nat → Int32)) => some (r_7_0.1, r_7_0.2.1, r_7_0.2.2.1, r_7_0.2.2.2.1, r_7_0.2.2.2.2.1, r_7_0.2.2.2.2.2.1, r_7_0.2.2.2.2.2.2.1, r_7_0.2.2.2.2.2.2.2.1, r_7_0.2.2.2.2.2.2.2.2)) (fun (r_7_1 : Int32 × Int32 × Int32 × Int32 × Int32 × (Nat → Int32) × (Nat → Int32) × (Nat → Int32)) => if r_7_1.1 = 0 then some ((nI 4294967295), r_7_1.1, r_7_1.2.1, r_7_1.2.2.1, r_7_1.2.2.2.1, r_7_1.2.2.2.2.1, r_7_1.2.2.2.2.2.1, r_7_1.2.2.2.2.2.2.1, r_7_1.2.2.2.2.2.2.2) else some (t_length, r_7_1.1, r_7_1.2.1, r_7_1.2.2.1, r_7_1.2.2.2.1, r_7_1.2.2.2.2.1, r_7_1.2.2.2.2.2.1, r_7_1.2.2.2.2.2.2.1, r_7_1.2.2.2.2.2.2.2)))
theorem yq_X1_readInto : yq yX1_readInto 1 := by unfold yq; decide +kernel
set_option maxHeartbeats 4000000 in
set_option maxRecDepth 100000 in
theorem c_X1_readInto (g : GG) (l : Launch) (h_t : Nat) (h_t_characters : Nat) (h_p1 : Nat) (h_p1_firsts : Nat) (h_p1_seconds : Nat) (h_p1_signs : Nat) (t_length : Int32) (t_stage : Int32) (t_first : Int32) (t_second : Int32) (t_sign : Int32) (a_t_characters : Nat → Int32) (p1_vertices : Int32) (p1_edges : Int32) (a_p1_firsts : Nat → Int32) (a_p1_seconds : Nat → Int32) (a_p1_signs : Nat → Int32) {R : Int32 × Int32 × Int32 × Int32 × Int32 × Int32 × (Nat → Int32) × (Nat → Int32) × (Nat → Int32)} (hM : f_X1_readInto t_length t_stage t_first t_second t_sign a_t_characters p1_vertices p1_edges a_p1_firsts a_p1_seconds a_p1_signs = some R) : CT g l yX1_readInto cX1_readInto 4 (some .int) 4 87 [.ref h_t, .ref h_p1] [ob h_t 1 [.int t_length, .ref h_t_characters, .int t_stage, .int t_first, .int t_second, .int t_sign], aI g h_t_characters 60 a_t_characters, ob h_p1 2 [.int p1_vertices, .int p1_edges, .ref h_p1_firsts, .ref h_p1_seconds, .ref h_p1_signs], aI g h_p1_firsts 9 a_p1_firsts, aI g h_p1_seconds 9 a_p1_seconds, aI g h_p1_signs 9 a_p1_signs] [ob h_t 1 [.int t_length, .ref h_t_characters, .int R.2.1, .int R.2.2.1, .int R.2.2.2.1, .int R.2.2.2.2.1], aI g h_t_characters 60 a_t_characters, ob h_p1 2 [.int p1_vertices, .int R.2.2.2.2.2.1, .ref h_p1_firsts, .ref h_p1_seconds, .ref h_p1_signs], aI g h_p1_firsts 9 R.2.2.2.2.2.2.1, aI g h_p1_seconds 9 R.2.2.2.2.2.2.2.1, aI g h_p1_signs 9 R.2.2.2.2.2.2.2.2] (some (.int R.1)) := by
  refine ct_i (by decide +kernel) (Nat.le_of_ble_eq_true rfl) ?_
  intro p e s m args below meth c Q A ls cx hP hD hA hl hfin
  obtain ⟨hx, hb, hml, hown, hts, hK⟩ := id cx
  have hl : lv_has ls 4 [(0, .ref h_t), (1, .ref h_p1)] := hl
  have hS : va_S A s.heap s.heap [] := va_S.rf
  refine lv_aload_n hx hb dX1_readInto_0 rfl (lv_at hl 0 rfl) ?_
  refine lv_iconst (v := (nI 0)) hx hb dX1_readInto_1 (by decide) ?_
  refine w_put cx hP hD hS 0 1 2 rfl rfl (by decide) m_99 rfl rfl rfl (Nat.le_of_ble_eq_true rfl) dX1_readInto_2 [ob h_t 1 [.int t_length, .ref h_t_characters, .int (nI 0), .int t_first, .int t_second, .int t_sign], aI g h_t_characters 60 a_t_characters, ob h_p1 2 [.int p1_vertices, .int p1_edges, .ref h_p1_firsts, .ref h_p1_seconds, .ref h_p1_signs], aI g h_p1_firsts 9 a_p1_firsts, aI g h_p1_seconds 9 a_p1_seconds, aI g h_p1_signs 9 a_p1_signs] rfl (fun H locs hP hD hS => ?_)
  refine lv_iconst (v := (nI 0)) hx hb dX1_readInto_5 (by decide) ?_
  refine lv_istore_n (lv' := [(2, .int (nI 0)), (0, .ref h_t), (1, .ref h_p1)]) hx hb dX1_readInto_6 rfl hl (by decide) rfl (fun ls hl => ?_)
  obtain ⟨r_7, hw, hM⟩ := bd_some hM
  obtain ⟨n, hn⟩ := wh_some hw
  clear hw
  have hE_7_0 : ∀ (r_7_0 : Int32 × Int32 × Int32 × Int32 × Int32 × Int32 × (Nat → Int32) × (Nat → Int32) × (Nat → Int32)), r_7 = .inl r_7_0 → ∀ (H : Heap) (locs : List Loc) (ls : Array Slot), va_P (gD g) vwCl [ob h_t 1 [.int t_length, .ref h_t_characters, .int r_7_0.2.1, .int r_7_0.2.2.1, .int r_7_0.2.2.2.1, .int r_7_0.2.2.2.2.1], aI g h_t_characters 60 a_t_characters, ob h_p1 2 [.int p1_vertices, .int r_7_0.2.2.2.2.2.1, .ref h_p1_firsts, .ref h_p1_seconds, .ref h_p1_signs], aI g h_p1_firsts 9 r_7_0.2.2.2.2.2.2.1, aI g h_p1_seconds 9 r_7_0.2.2.2.2.2.2.2.1, aI g h_p1_signs 9 r_7_0.2.2.2.2.2.2.2.2] H → va_D A [ob h_t 1 [.int t_length, .ref h_t_characters, .int r_7_0.2.1, .int r_7_0.2.2.1, .int r_7_0.2.2.2.1, .int r_7_0.2.2.2.2.1], aI g h_t_characters 60 a_t_characters, ob h_p1 2 [.int p1_vertices, .int r_7_0.2.2.2.2.2.1, .ref h_p1_firsts, .ref h_p1_seconds, .ref h_p1_signs], aI g h_p1_firsts 9 r_7_0.2.2.2.2.2.2.1, aI g h_p1_seconds 9 r_7_0.2.2.2.2.2.2.2.1, aI g h_p1_signs 9 r_7_0.2.2.2.2.2.2.2.2] → va_S A s.heap H locs → lv_has ls 4 [(2, .int r_7_0.1)] → W p l e (rmv 4 87) s m args below meth c H locs 0 0 Q (F0 m 37 ls []) := by
    intro r_7_0 hr H locs ls hP hD hS hl
    have hM := ex2_0 hM hr
    refine lv_iload_n hx hb dX1_readInto_37 rfl (lv_at hl 0 rfl) ?_
    obtain rfl := Option.some.inj hM
    exact hfin 38 _ _ _ dX1_readInto_38 hP hD hS
  have hE_7_1 : ∀ (r_7_1 : Int32 × Int32 × Int32 × Int32 × Int32 × (Nat → Int32) × (Nat → Int32) × (Nat → Int32)), r_7 = .inr r_7_1 → ∀ (H : Heap) (locs : List Loc) (ls : Array Slot), va_P (gD g) vwCl [ob h_t 1 [.int t_length, .ref h_t_characters, .int r_7_1.1, .int r_7_1.2.1, .int r_7_1.2.2.1, .int r_7_1.2.2.2.1], aI g h_t_characters 60 a_t_characters, ob h_p1 2 [.int p1_vertices, .int r_7_1.2.2.2.2.1, .ref h_p1_firsts, .ref h_p1_seconds, .ref h_p1_signs], aI g h_p1_firsts 9 r_7_1.2.2.2.2.2.1, aI g h_p1_seconds 9 r_7_1.2.2.2.2.2.2.1, aI g h_p1_signs 9 r_7_1.2.2.2.2.2.2.2] H → va_D A [ob h_t 1 [.int t_length, .ref h_t_characters, .int r_7_1.1, .int r_7_1.2.1, .int r_7_1.2.2.1, .int r_7_1.2.2.2.1], aI g h_t_characters 60 a_t_characters, ob h_p1 2 [.int p1_vertices, .int r_7_1.2.2.2.2.1, .ref h_p1_firsts, .ref h_p1_seconds, .ref h_p1_signs], aI g h_p1_firsts 9 r_7_1.2.2.2.2.2.1, aI g h_p1_seconds 9 r_7_1.2.2.2.2.2.2.1, aI g h_p1_signs 9 r_7_1.2.2.2.2.2.2.2] → va_S A s.heap H locs → lv_has ls 4 [(0, .ref h_t)] → W p l e (rmv 4 87) s m args below meth c H locs 0 0 Q (F0 m 45 ls []) := by
    intro r_7_1 hr H locs ls hP hD hS hl
    have hM := ex2_1 hM hr
    refine lv_aload_n hx hb dX1_readInto_45 rfl (lv_at hl 0 rfl) ?_
    refine w_get cx hP 0 1 2 rfl rfl (by decide) m_99 rfl rfl dX1_readInto_46 ?_
    refine lv_if_ne (tgt := 56) hx hb dX1_readInto_49 (by decide) (fun c_49 => ?_) (fun c_49 => ?_)
    · have hM := if_f hM c_49
      refine lv_aload_n hx hb dX1_readInto_56 rfl (lv_at hl 0 rfl) ?_
      refine w_get cx hP 0 1 0 rfl rfl (by decide) m_96 rfl rfl dX1_readInto_57 ?_
      obtain rfl := Option.some.inj hM
      exact hfin 60 _ _ _ dX1_readInto_60 hP hD hS
    · have hM := if_t hM c_49
      refine lv_iconst (v := (nI 4294967295)) hx hb dX1_readInto_52 (by decide) ?_
      refine lv_goto (tgt := 60) hx hb dX1_readInto_53 (by decide) ?_
      obtain rfl := Option.some.inj hM
      exact hfin 60 _ _ _ dX1_readInto_60 hP hD hS
  clear hM
  have hL_7 : ∀ (n : Nat) (z_7 : Int32 × Int32 × Int32 × Int32 × Int32 × Int32 × (Nat → Int32) × (Nat → Int32) × (Nat → Int32)), it (b_X1_readInto_7 t_length a_t_characters p1_vertices) n z_7 = some r_7 → ∀ (H : Heap) (locs : List Loc) (ls : Array Slot), va_P (gD g) vwCl [ob h_t 1 [.int t_length, .ref h_t_characters, .int z_7.2.1, .int z_7.2.2.1, .int z_7.2.2.2.1, .int z_7.2.2.2.2.1], aI g h_t_characters 60 a_t_characters, ob h_p1 2 [.int p1_vertices, .int z_7.2.2.2.2.2.1, .ref h_p1_firsts, .ref h_p1_seconds, .ref h_p1_signs], aI g h_p1_firsts 9 z_7.2.2.2.2.2.2.1, aI g h_p1_seconds 9 z_7.2.2.2.2.2.2.2.1, aI g h_p1_signs 9 z_7.2.2.2.2.2.2.2.2] H → va_D A [ob h_t 1 [.int t_length, .ref h_t_characters, .int z_7.2.1, .int z_7.2.2.1, .int z_7.2.2.2.1, .int z_7.2.2.2.2.1], aI g h_t_characters 60 a_t_characters, ob h_p1 2 [.int p1_vertices, .int z_7.2.2.2.2.2.1, .ref h_p1_firsts, .ref h_p1_seconds, .ref h_p1_signs], aI g h_p1_firsts 9 z_7.2.2.2.2.2.2.1, aI g h_p1_seconds 9 z_7.2.2.2.2.2.2.2.1, aI g h_p1_signs 9 z_7.2.2.2.2.2.2.2.2] → va_S A s.heap H locs → lv_has ls 4 [(2, .int z_7.1), (0, .ref h_t), (1, .ref h_p1)] → W p l e (rmv 4 87) s m args below meth c H locs 0 0 Q (F0 m 7 ls []) := by
    intro n
    induction n with
    | zero => intro z_7 hn; exact (it_zero hn).elim
    | succ n ih =>
      intro z_7 hn H locs ls hP hD hS hl
      obtain ⟨x, hM, hX⟩ := it_succ hn
      clear hn
      refine lv_iload_n hx hb dX1_readInto_7 rfl (lv_at hl 0 rfl) ?_
      refine lv_aload_n hx hb dX1_readInto_8 rfl (lv_at hl 1 rfl) ?_
      refine w_get cx hP 0 1 0 rfl rfl (by decide) m_96 rfl rfl dX1_readInto_9 ?_
      refine lv_icmp_ge (tgt := 45) hx hb dX1_readInto_12 (by decide) (fun c_12 => ?_) (fun c_12 => ?_)
      · have hM := if_t hM c_12
        obtain rfl := Option.some.inj hM
        obtain rfl : _ = r_7 := hX
        exact hE_7_1 _ rfl _ _ _ hP hD hS (lv_sub hl [1] rfl)
      · have hM := if_f hM c_12
        refine lv_aload_n hx hb dX1_readInto_15 rfl (lv_at hl 1 rfl) ?_
        refine w_get cx hP 0 1 1 rfl rfl (by decide) m_98 rfl rfl dX1_readInto_16 ?_
        refine lv_iload_n hx hb dX1_readInto_19 rfl (lv_at hl 0 rfl) ?_
        obtain ⟨g_20, hM⟩ := gd_some hM
        refine w_iald cx hP 1 rfl g_20 dX1_readInto_20 ?_
        refine lv_topi (fun x_21 ex_21 => ?_)
        have hM := nm_some hM x_21 ex_21
        refine lv_istore_n (lv' := [(3, .int x_21), (2, .int z_7.1), (0, .ref h_t), (1, .ref h_p1)]) hx hb dX1_readInto_21 rfl hl (by decide) rfl (fun ls hl => ?_)
        refine lv_iload_n hx hb dX1_readInto_22 rfl (lv_at hl 0 rfl) ?_
        refine lv_bipush (v := (nI 32)) hx hb dX1_readInto_23 (by decide) ?_
        refine lv_icmp_eq (tgt := 39) hx hb dX1_readInto_25 (by decide) (fun c_25 => ?_) (fun c_25 => ?_)
        · have hM := if_t hM c_25
          refine lv_iinc (v := z_7.1 + (nI 1)) (lv' := [(2, .int (z_7.1 + (nI 1))), (3, .int x_21), (0, .ref h_t), (1, .ref h_p1)]) hx hb dX1_readInto_39 hl (k := 1) rfl (congrArg (fun q => z_7.1 + q) (show Int32.ofInt (1) = (nI 1) by decide)) (by decide) rfl (fun ls hl => ?_)
          refine lv_goto (tgt := 7) hx hb dX1_readInto_42 (by decide) ?_
          obtain rfl := Option.some.inj hM
          exact ih _ hX _ _ _ hP hD hS (lv_sub hl [0, 2, 3] rfl)
        · have hM := if_f hM c_25
          refine lv_aload_n hx hb dX1_readInto_28 rfl (lv_at hl 2 rfl) ?_
          refine lv_iload_n hx hb dX1_readInto_29 rfl (lv_at hl 0 rfl) ?_
          refine lv_aload_n hx hb dX1_readInto_30 rfl (lv_at hl 3 rfl) ?_
          obtain ⟨q_31, hc_31, hM⟩ := bd_some hM
          refine w_callV cx hP hD hS hA (c_X1_accept g l h_t h_t_characters h_p1 h_p1_firsts h_p1_seconds h_p1_signs x_21 t_length z_7.2.1 z_7.2.2.1 z_7.2.2.2.1 z_7.2.2.2.2.1 p1_vertices z_7.2.2.2.2.2.1 z_7.2.2.2.2.2.2.1 z_7.2.2.2.2.2.2.2.1 z_7.2.2.2.2.2.2.2.2 hc_31) [0, 2, 3, 4, 5] rfl (by decide) rfl [ob h_t 1 [.int t_length, .ref h_t_characters, .int q_31.2.1, .int q_31.2.2.1, .int q_31.2.2.2.1, .int q_31.2.2.2.2.1], aI g h_t_characters 60 a_t_characters, ob h_p1 2 [.int p1_vertices, .int q_31.2.2.2.2.2.1, .ref h_p1_firsts, .ref h_p1_seconds, .ref h_p1_signs], aI g h_p1_firsts 9 q_31.2.2.2.2.2.2.1, aI g h_p1_seconds 9 q_31.2.2.2.2.2.2.2.1, aI g h_p1_signs 9 q_31.2.2.2.2.2.2.2.2] rfl 0 1 rfl rfl yq_X1_accept rfl m_288 m_290 m_1 m_20 m_291 ⟨Nat.le_of_ble_eq_true rfl, Nat.le_of_ble_eq_true rfl⟩ rfl rfl hl.1 (Nat.le_of_ble_eq_true rfl) dX1_readInto_31 ⟨Nat.le_refl 0, Nat.le_refl 0⟩ rfl (fun H locs hP hD hS => ?_)
          refine lv_if_ne (tgt := 39) hx hb dX1_readInto_34 (by decide) (fun c_34 => ?_) (fun c_34 => ?_)
          · have hM := if_f hM c_34
            refine lv_iinc (v := z_7.1 + (nI 1)) (lv' := [(2, .int (z_7.1 + (nI 1))), (3, .int x_21), (0, .ref h_t), (1, .ref h_p1)]) hx hb dX1_readInto_39 hl (k := 1) rfl (congrArg (fun q => z_7.1 + q) (show Int32.ofInt (1) = (nI 1) by decide)) (by decide) rfl (fun ls hl => ?_)
            refine lv_goto (tgt := 7) hx hb dX1_readInto_42 (by decide) ?_
            obtain rfl := Option.some.inj hM
            exact ih _ hX _ _ _ hP hD hS (lv_sub hl [0, 2, 3] rfl)
          · have hM := if_t hM c_34
            obtain rfl := Option.some.inj hM
            obtain rfl : _ = r_7 := hX
            exact hE_7_0 _ rfl _ _ _ hP hD hS (lv_sub hl [1] rfl)
  exact hL_7 n _ hn _ _ _ hP hD hS (lv_sub hl [0, 1, 2] rfl)
noncomputable def b_X5_signOfWord_5 (p2 : Int32) (a_t_word : Nat → Int32) (a_p1_signs : Nat → Int32) : Int32 × Int32 → Option ((Int32 × Int32) ⊕ ((Int32))) := fun z_5 =>
  if p2 ≤ z_5.1 then some (.inr z_5.2) else gd (inb z_5.1 5) (gd (inb ((a_t_word z_5.1.toNatClampNeg) / (nI 2)) 9) (nm (z_5.2 * (a_p1_signs ((a_t_word z_5.1.toNatClampNeg) / (nI 2)).toNatClampNeg)) (fun (x_27 : Int32) => some (.inl (z_5.1 + (nI 1), x_27)))))
noncomputable def f_X5_signOfWord (p2 : Int32) (t_toSkip : Int32) (a_t_word : Nat → Int32) (p1_vertices : Int32) (p1_edges : Int32) (a_p1_signs : Nat → Int32) : Option (Int32) :=
  bd (wh (b_X5_signOfWord_5 p2 a_t_word a_p1_signs) ((nI 0), (nI 1))) (fun (r_5 : Int32) => some r_5)
theorem yq_X5_signOfWord : yq yX5_signOfWord 2 := by unfold yq; decide +kernel
set_option maxHeartbeats 4000000 in
set_option maxRecDepth 100000 in
theorem c_X5_signOfWord (g : GG) (l : Launch) (h_t : Nat) (h_t_word : Nat) (h_p1 : Nat) (h_p1_firsts : Nat) (h_p1_seconds : Nat) (h_p1_signs : Nat) (p2 : Int32) (t_toSkip : Int32) (a_t_word : Nat → Int32) (p1_vertices : Int32) (p1_edges : Int32) (a_p1_signs : Nat → Int32) {R : Int32} (hM : f_X5_signOfWord p2 t_toSkip a_t_word p1_vertices p1_edges a_p1_signs = some R) : CT g l yX5_signOfWord cX5_signOfWord 5 (some .int) 0 0 [.ref h_t, .ref h_p1, .int p2] [ob h_t 5 [.ref h_t_word, .int t_toSkip], aI g h_t_word 5 a_t_word, ob h_p1 2 [.int p1_vertices, .int p1_edges, .ref h_p1_firsts, .ref h_p1_seconds, .ref h_p1_signs], aI g h_p1_signs 9 a_p1_signs] [ob h_t 5 [.ref h_t_word, .int t_toSkip], aI g h_t_word 5 a_t_word, ob h_p1 2 [.int p1_vertices, .int p1_edges, .ref h_p1_firsts, .ref h_p1_seconds, .ref h_p1_signs], aI g h_p1_signs 9 a_p1_signs] (some (.int R)) := by
  refine ct_i (by decide +kernel) (Nat.le_of_ble_eq_true rfl) ?_
  intro p e s m args below meth c Q A ls cx hP hD hA hl hfin
  obtain ⟨hx, hb, hml, hown, hts, hK⟩ := id cx
  have hl : lv_has ls 5 [(0, .ref h_t), (1, .ref h_p1), (2, .int p2)] := hl
  have hS : va_S A s.heap s.heap [] := va_S.rf
  refine lv_iconst (v := (nI 1)) hx hb dX5_signOfWord_0 (by decide) ?_
  refine lv_istore_n (lv' := [(3, .int (nI 1)), (0, .ref h_t), (1, .ref h_p1), (2, .int p2)]) hx hb dX5_signOfWord_1 rfl hl (by decide) rfl (fun ls hl => ?_)
  refine lv_iconst (v := (nI 0)) hx hb dX5_signOfWord_2 (by decide) ?_
  refine lv_istore (lv' := [(4, .int (nI 0)), (3, .int (nI 1)), (0, .ref h_t), (1, .ref h_p1), (2, .int p2)]) hx hb dX5_signOfWord_3 hl (by decide) rfl (fun ls hl => ?_)
  obtain ⟨r_5, hw, hM⟩ := bd_some hM
  obtain ⟨n, hn⟩ := wh_some hw
  clear hw
  have hE_5_0 : ∀ (H : Heap) (locs : List Loc) (ls : Array Slot), va_P (gD g) vwCl [ob h_t 5 [.ref h_t_word, .int t_toSkip], aI g h_t_word 5 a_t_word, ob h_p1 2 [.int p1_vertices, .int p1_edges, .ref h_p1_firsts, .ref h_p1_seconds, .ref h_p1_signs], aI g h_p1_signs 9 a_p1_signs] H → va_D A [ob h_t 5 [.ref h_t_word, .int t_toSkip], aI g h_t_word 5 a_t_word, ob h_p1 2 [.int p1_vertices, .int p1_edges, .ref h_p1_firsts, .ref h_p1_seconds, .ref h_p1_signs], aI g h_p1_signs 9 a_p1_signs] → va_S A s.heap H locs → lv_has ls 5 [(3, .int r_5)] → W p l e (rmv 0 0) s m args below meth c H locs 0 0 Q (F0 m 34 ls []) := by
    intro H locs ls hP hD hS hl
    refine lv_iload_n hx hb dX5_signOfWord_34 rfl (lv_at hl 0 rfl) ?_
    obtain rfl := Option.some.inj hM
    exact hfin 35 _ _ _ dX5_signOfWord_35 hP hD hS
  clear hM
  have hL_5 : ∀ (n : Nat) (z_5 : Int32 × Int32), it (b_X5_signOfWord_5 p2 a_t_word a_p1_signs) n z_5 = some r_5 → ∀ (H : Heap) (locs : List Loc) (ls : Array Slot), va_P (gD g) vwCl [ob h_t 5 [.ref h_t_word, .int t_toSkip], aI g h_t_word 5 a_t_word, ob h_p1 2 [.int p1_vertices, .int p1_edges, .ref h_p1_firsts, .ref h_p1_seconds, .ref h_p1_signs], aI g h_p1_signs 9 a_p1_signs] H → va_D A [ob h_t 5 [.ref h_t_word, .int t_toSkip], aI g h_t_word 5 a_t_word, ob h_p1 2 [.int p1_vertices, .int p1_edges, .ref h_p1_firsts, .ref h_p1_seconds, .ref h_p1_signs], aI g h_p1_signs 9 a_p1_signs] → va_S A s.heap H locs → lv_has ls 5 [(4, .int z_5.1), (3, .int z_5.2), (0, .ref h_t), (1, .ref h_p1), (2, .int p2)] → W p l e (rmv 0 0) s m args below meth c H locs 0 0 Q (F0 m 5 ls []) := by
    intro n
    induction n with
    | zero => intro z_5 hn; exact (it_zero hn).elim
    | succ n ih =>
      intro z_5 hn H locs ls hP hD hS hl
      obtain ⟨x, hM, hX⟩ := it_succ hn
      clear hn
      refine lv_iload hx hb dX5_signOfWord_5 (lv_at hl 0 rfl) ?_
      refine lv_iload_n hx hb dX5_signOfWord_7 rfl (lv_at hl 4 rfl) ?_
      refine lv_icmp_ge (tgt := 34) hx hb dX5_signOfWord_8 (by decide) (fun c_8 => ?_) (fun c_8 => ?_)
      · have hM := if_t hM c_8
        obtain rfl := Option.some.inj hM
        obtain rfl : _ = r_5 := hX
        exact hE_5_0 _ _ _ hP hD hS (lv_sub hl [1] rfl)
      · have hM := if_f hM c_8
        refine lv_iload_n hx hb dX5_signOfWord_11 rfl (lv_at hl 1 rfl) ?_
        refine lv_aload_n hx hb dX5_signOfWord_12 rfl (lv_at hl 3 rfl) ?_
        refine w_getN cx hP 2 2 4 rfl rfl (by decide) n_57 rfl rfl dX5_signOfWord_13 ?_
        refine lv_aload_n hx hb dX5_signOfWord_16 rfl (lv_at hl 2 rfl) ?_
        refine w_get cx hP 0 5 0 rfl rfl (by decide) m_165 rfl rfl dX5_signOfWord_17 ?_
        refine lv_iload hx hb dX5_signOfWord_20 (lv_at hl 0 rfl) ?_
        obtain ⟨g_22, hM⟩ := gd_some hM
        refine w_iald cx hP 1 rfl g_22 dX5_signOfWord_22 ?_
        refine lv_iconst (v := (nI 2)) hx hb dX5_signOfWord_23 (by decide) ?_
        refine lv_idiv hx hb dX5_signOfWord_24 (by decide) ?_
        obtain ⟨g_25, hM⟩ := gd_some hM
        refine w_iald cx hP 3 rfl g_25 dX5_signOfWord_25 ?_
        refine lv_imul hx hb dX5_signOfWord_26 ?_
        refine lv_topi (fun x_27 ex_27 => ?_)
        have hM := nm_some hM x_27 ex_27
        refine lv_istore_n (lv' := [(3, .int x_27), (4, .int z_5.1), (0, .ref h_t), (1, .ref h_p1), (2, .int p2)]) hx hb dX5_signOfWord_27 rfl hl (by decide) rfl (fun ls hl => ?_)
        refine lv_iinc (v := z_5.1 + (nI 1)) (lv' := [(4, .int (z_5.1 + (nI 1))), (3, .int x_27), (0, .ref h_t), (1, .ref h_p1), (2, .int p2)]) hx hb dX5_signOfWord_28 hl (k := 1) rfl (congrArg (fun q => z_5.1 + q) (show Int32.ofInt (1) = (nI 1) by decide)) (by decide) rfl (fun ls hl => ?_)
        refine lv_goto (tgt := 5) hx hb dX5_signOfWord_31 (by decide) ?_
        obtain rfl := Option.some.inj hM
        exact ih _ hX _ _ _ hP hD hS (lv_sub hl [0, 1, 2, 3, 4] rfl)
  exact hL_5 n _ hn _ _ _ hP hD hS (lv_sub hl [0, 1, 2, 3, 4] rfl)
noncomputable def f_X5_isWanted (p2 : Int32) (p3 : Int32) (t_toSkip : Int32) (a_t_word : Nat → Int32) (p1_vertices : Int32) (p1_edges : Int32) (a_p1_firsts : Nat → Int32) (a_p1_seconds : Nat → Int32) : Option (Int32 × Int32) :=
  if p3 = p2 then gd (inb (p2 - (nI 1)) 5) (gd (inb (nI 0) 5) (bd (f_X2_leadsOn (a_t_word (p2 - (nI 1)).toNatClampNeg) (a_t_word (nI 0).toNatClampNeg) p1_vertices p1_edges a_p1_firsts a_p1_seconds) (fun (q_20 : Int32) => if q_20 = 0 then some ((nI 0), t_toSkip) else if t_toSkip ≤ 0 then some ((nI 1), t_toSkip) else some ((nI 0), (t_toSkip - (nI 1)))))) else some ((nI 0), t_toSkip)
theorem yq_X5_isWanted : yq yX5_isWanted 3 := by unfold yq; decide +kernel
set_option maxHeartbeats 4000000 in
set_option maxRecDepth 100000 in
theorem c_X5_isWanted (g : GG) (l : Launch) (h_t : Nat) (h_t_word : Nat) (h_p1 : Nat) (h_p1_firsts : Nat) (h_p1_seconds : Nat) (h_p1_signs : Nat) (p2 : Int32) (p3 : Int32) (t_toSkip : Int32) (a_t_word : Nat → Int32) (p1_vertices : Int32) (p1_edges : Int32) (a_p1_firsts : Nat → Int32) (a_p1_seconds : Nat → Int32) {R : Int32 × Int32} (hM : f_X5_isWanted p2 p3 t_toSkip a_t_word p1_vertices p1_edges a_p1_firsts a_p1_seconds = some R) : CT g l yX5_isWanted cX5_isWanted 4 (some .boolean) 2 43 [.ref h_t, .ref h_p1, .int p2, .int p3] [ob h_t 5 [.ref h_t_word, .int t_toSkip], aI g h_t_word 5 a_t_word, ob h_p1 2 [.int p1_vertices, .int p1_edges, .ref h_p1_firsts, .ref h_p1_seconds, .ref h_p1_signs], aI g h_p1_firsts 9 a_p1_firsts, aI g h_p1_seconds 9 a_p1_seconds] [ob h_t 5 [.ref h_t_word, .int R.2], aI g h_t_word 5 a_t_word, ob h_p1 2 [.int p1_vertices, .int p1_edges, .ref h_p1_firsts, .ref h_p1_seconds, .ref h_p1_signs], aI g h_p1_firsts 9 a_p1_firsts, aI g h_p1_seconds 9 a_p1_seconds] (some (.int R.1)) := by
  refine ct_z (by decide +kernel) (Nat.le_of_ble_eq_true rfl) ?_
  intro p e s m args below meth c Q A ls cx hP hD hA hl hfin
  obtain ⟨hx, hb, hml, hown, hts, hK⟩ := id cx
  have hl : lv_has ls 4 [(0, .ref h_t), (1, .ref h_p1), (2, .int p2), (3, .int p3)] := hl
  have hS : va_S A s.heap s.heap [] := va_S.rf
  refine lv_iload_n hx hb dX5_isWanted_0 rfl (lv_at hl 3 rfl) ?_
  refine lv_iload_n hx hb dX5_isWanted_1 rfl (lv_at hl 2 rfl) ?_
  refine lv_icmp_ne (tgt := 26) hx hb dX5_isWanted_2 (by decide) (fun c_2 => ?_) (fun c_2 => ?_)
  · have hM := if_f hM c_2
    refine lv_iconst (v := (nI 0)) hx hb dX5_isWanted_26 (by decide) ?_
    have hz : bq (nI 0) = true := by decide
    obtain rfl := Option.some.inj hM
    exact hfin 27 _ _ _ dX5_isWanted_27 hz hP hD hS
  · have hM := if_t hM c_2
    refine lv_aload_n hx hb dX5_isWanted_5 rfl (lv_at hl 1 rfl) ?_
    refine lv_aload_n hx hb dX5_isWanted_6 rfl (lv_at hl 0 rfl) ?_
    refine w_get cx hP 0 5 0 rfl rfl (by decide) m_165 rfl rfl dX5_isWanted_7 ?_
    refine lv_iload_n hx hb dX5_isWanted_10 rfl (lv_at hl 2 rfl) ?_
    refine lv_iconst (v := (nI 1)) hx hb dX5_isWanted_11 (by decide) ?_
    refine lv_isub hx hb dX5_isWanted_12 ?_
    obtain ⟨g_13, hM⟩ := gd_some hM
    refine w_iald cx hP 1 rfl g_13 dX5_isWanted_13 ?_
    refine lv_aload_n hx hb dX5_isWanted_14 rfl (lv_at hl 0 rfl) ?_
    refine w_get cx hP 0 5 0 rfl rfl (by decide) m_165 rfl rfl dX5_isWanted_15 ?_
    refine lv_iconst (v := (nI 0)) hx hb dX5_isWanted_18 (by decide) ?_
    obtain ⟨g_19, hM⟩ := gd_some hM
    refine w_iald cx hP 1 rfl g_19 dX5_isWanted_19 ?_
    obtain ⟨q_20, hc_20, hM⟩ := bd_some hM
    refine w_callV cx hP hD hS hA (c_X2_leadsOn g l h_p1 h_p1_firsts h_p1_seconds h_p1_signs (a_t_word (p2 - (nI 1)).toNatClampNeg) (a_t_word (nI 0).toNatClampNeg) p1_vertices p1_edges a_p1_firsts a_p1_seconds hc_20) [2, 3, 4] rfl (by decide) rfl [ob h_t 5 [.ref h_t_word, .int t_toSkip], aI g h_t_word 5 a_t_word, ob h_p1 2 [.int p1_vertices, .int p1_edges, .ref h_p1_firsts, .ref h_p1_seconds, .ref h_p1_signs], aI g h_p1_firsts 9 a_p1_firsts, aI g h_p1_seconds 9 a_p1_seconds] rfl 2 2 rfl rfl yq_X2_leadsOn rfl m_489 m_432 m_433 m_18 m_434 ⟨Nat.le_of_ble_eq_true rfl, Nat.le_of_ble_eq_true rfl⟩ rfl rfl hl.1 (Nat.le_of_ble_eq_true rfl) dX5_isWanted_20 ⟨Nat.le_refl 0, Nat.le_refl 0⟩ rfl (fun H locs hP hD hS => ?_)
    refine lv_if_ne (tgt := 28) hx hb dX5_isWanted_23 (by decide) (fun c_23 => ?_) (fun c_23 => ?_)
    · have hM := if_f hM c_23
      refine lv_aload_n hx hb dX5_isWanted_28 rfl (lv_at hl 0 rfl) ?_
      refine w_get cx hP 0 5 1 rfl rfl (by decide) m_167 rfl rfl dX5_isWanted_29 ?_
      refine lv_if_le (tgt := 47) hx hb dX5_isWanted_32 (by decide) (fun c_32 => ?_) (fun c_32 => ?_)
      · have hM := if_t hM c_32
        refine lv_iconst (v := (nI 1)) hx hb dX5_isWanted_47 (by decide) ?_
        have hz : bq (nI 1) = true := by decide
        obtain rfl := Option.some.inj hM
        exact hfin 48 _ _ _ dX5_isWanted_48 hz hP hD hS
      · have hM := if_f hM c_32
        refine lv_aload_n hx hb dX5_isWanted_35 rfl (lv_at hl 0 rfl) ?_
        refine lv_dup hx hb dX5_isWanted_36 rfl ?_
        refine w_get cx hP 0 5 1 rfl rfl (by decide) m_167 rfl rfl dX5_isWanted_37 ?_
        refine lv_iconst (v := (nI 1)) hx hb dX5_isWanted_40 (by decide) ?_
        refine lv_isub hx hb dX5_isWanted_41 ?_
        refine w_put cx hP hD hS 0 5 1 rfl rfl (by decide) m_167 rfl rfl rfl (Nat.le_of_ble_eq_true rfl) dX5_isWanted_42 [ob h_t 5 [.ref h_t_word, .int (t_toSkip - (nI 1))], aI g h_t_word 5 a_t_word, ob h_p1 2 [.int p1_vertices, .int p1_edges, .ref h_p1_firsts, .ref h_p1_seconds, .ref h_p1_signs], aI g h_p1_firsts 9 a_p1_firsts, aI g h_p1_seconds 9 a_p1_seconds] rfl (fun H locs hP hD hS => ?_)
        refine lv_iconst (v := (nI 0)) hx hb dX5_isWanted_45 (by decide) ?_
        have hz : bq (nI 0) = true := by decide
        obtain rfl := Option.some.inj hM
        exact hfin 46 _ _ _ dX5_isWanted_46 hz hP hD hS
    · have hM := if_t hM c_23
      refine lv_iconst (v := (nI 0)) hx hb dX5_isWanted_26 (by decide) ?_
      have hz : bq (nI 0) = true := by decide
      obtain rfl := Option.some.inj hM
      exact hfin 27 _ _ _ dX5_isWanted_27 hz hP hD hS
