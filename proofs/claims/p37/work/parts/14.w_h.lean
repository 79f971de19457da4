noncomputable def b_X4_discardOldest_9 : Int32 × List Nat → Option ((Int32 × List Nat) ⊕ ((List Nat))) := fun z_9 =>
  if (nI 8) ≤ z_9.1 then some (.inr z_9.2) else gd (inb z_9.1 8) (bd (z_9.2[z_9.1.toNatClampNeg]?) (fun (y_27 : Nat) => gd (ltq y_27 8) (gd (inb (z_9.1 - (nI 1)) 8) (gd (lenq z_9.2) (some (.inl (z_9.1 + (nI 1), z_9.2.set (z_9.1 - (nI 1)).toNatClampNeg y_27)))))))
noncomputable def f_X4_discardOldest (t_count : Int32) (o_t_saved : List Nat) (C_t_saved : Nat → GC) : Option (Int32 × List Nat) :=
  gd (inb (nI 0) 8) (bd (o_t_saved[(nI 0).toNatClampNeg]?) (fun (y_5 : Nat) => gd (ltq y_5 8) (bd (wh b_X4_discardOldest_9 ((nI 1), o_t_saved)) (fun (r_9 : List Nat) => gd (inb (nI 7) 8) (gd (lenq r_9) (some ((nI 7), r_9.set (nI 7).toNatClampNeg y_5)))))))
theorem yq_X4_discardOldest : yq yX4_discardOldest 0 := by unfold yq; decide +kernel
set_option maxHeartbeats 4000000 in
set_option maxRecDepth 100000 in
theorem c_X4_discardOldest (g : GG) (l : Launch) (h_t : Nat) (h_t_saved : Nat) (ga_h_t_saved : Nat → Nat) (fa_h_t_saved : Nat → Nat) (sa_h_t_saved : Nat → Nat) (na_h_t_saved : Nat → Nat) (t_count : Int32) (o_t_saved : List Nat) (C_t_saved : Nat → GC) {R : Int32 × List Nat} (hM : f_X4_discardOldest t_count o_t_saved C_t_saved = some R) : CT g l yX4_discardOldest cX4_discardOldest 3 none 0 0 [.ref h_t] ([ob h_t 4 [.int t_count, .ref h_t_saved]] ++ (grp g h_t_saved ga_h_t_saved fa_h_t_saved sa_h_t_saved na_h_t_saved o_t_saved C_t_saved)) ([ob h_t 4 [.int R.1, .ref h_t_saved]] ++ (grp g h_t_saved ga_h_t_saved fa_h_t_saved sa_h_t_saved na_h_t_saved R.2 C_t_saved)) none := by
  refine ct_v (by decide +kernel) (Nat.le_of_ble_eq_true rfl) ?_
  intro p e s m args below meth c Q A ls cx hP hD hA hl hfin
  obtain ⟨hx, hb, hml, hown, hts, hK⟩ := id cx
  have hl : lv_has ls 3 [(0, .ref h_t)] := hl
  have hS : va_S A s.heap s.heap [] := va_S.rf
  refine lv_aload_n hx hb dX4_discardOldest_0 rfl (lv_at hl 0 rfl) ?_
  refine w_get cx hP 0 4 1 rfl rfl (by decide) m_84 rfl rfl dX4_discardOldest_1 ?_
  refine lv_iconst (v := (nI 0)) hx hb dX4_discardOldest_4 (by decide) ?_
  obtain ⟨g_5, hM⟩ := gd_some hM
  obtain ⟨y_5, hy_5, hM⟩ := bd_some hM
  obtain ⟨ly_5, hM⟩ := gd_some hM
  refine w_aldG cx hP 1 rfl g_5 hy_5 dX4_discardOldest_5 ?_
  refine lv_astore_n (lv' := [(1, .ref (ga_h_t_saved y_5)), (0, .ref h_t)]) hx hb dX4_discardOldest_6 rfl hl (by decide) rfl (fun ls hl => ?_)
  refine lv_iconst (v := (nI 1)) hx hb dX4_discardOldest_7 (by decide) ?_
  refine lv_istore_n (lv' := [(2, .int (nI 1)), (1, .ref (ga_h_t_saved y_5)), (0, .ref h_t)]) hx hb dX4_discardOldest_8 rfl hl (by decide) rfl (fun ls hl => ?_)
  obtain ⟨r_9, hw, hM⟩ := bd_some hM
  obtain ⟨n, hn⟩ := wh_some hw
  clear hw
  have hE_9_0 : ∀ (H : Heap) (locs : List Loc) (ls : Array Slot), va_P (gD g) vwCl ([ob h_t 4 [.int t_count, .ref h_t_saved]] ++ (grp g h_t_saved ga_h_t_saved fa_h_t_saved sa_h_t_saved na_h_t_saved r_9 C_t_saved)) H → va_D A ([ob h_t 4 [.int t_count, .ref h_t_saved]] ++ (grp g h_t_saved ga_h_t_saved fa_h_t_saved sa_h_t_saved na_h_t_saved r_9 C_t_saved)) → va_S A s.heap H locs → lv_has ls 3 [(1, .ref (ga_h_t_saved y_5)), (0, .ref h_t)] → W p l e (rmv 0 0) s m args below meth c H locs 0 0 Q (F0 m 35 ls []) := by
    intro H locs ls hP hD hS hl
    refine lv_aload_n hx hb dX4_discardOldest_35 rfl (lv_at hl 1 rfl) ?_
    refine w_get cx hP 0 4 1 rfl rfl (by decide) m_84 rfl rfl dX4_discardOldest_36 ?_
    refine lv_bipush (v := (nI 7)) hx hb dX4_discardOldest_39 (by decide) ?_
    refine lv_aload_n hx hb dX4_discardOldest_41 rfl (lv_at hl 0 rfl) ?_
    obtain ⟨g_42, hM⟩ := gd_some hM
    obtain ⟨g_42l, hM⟩ := gd_some hM
    refine w_astG cx hP hD hS 1 rfl g_42l g_42 (by rcases lt8 (ltq_lt ly_5) with rfl | rfl | rfl | rfl | rfl | rfl | rfl | rfl <;> first | exact ⟨2, _, rfl⟩ | exact ⟨6, _, rfl⟩ | exact ⟨10, _, rfl⟩ | exact ⟨14, _, rfl⟩ | exact ⟨18, _, rfl⟩ | exact ⟨22, _, rfl⟩ | exact ⟨26, _, rfl⟩ | exact ⟨30, _, rfl⟩) dX4_discardOldest_42 ([ob h_t 4 [.int t_count, .ref h_t_saved]] ++ (grp g h_t_saved ga_h_t_saved fa_h_t_saved sa_h_t_saved na_h_t_saved (r_9.set (nI 7).toNatClampNeg y_5) C_t_saved)) rfl (fun H locs hP hD hS => ?_)
    refine lv_aload_n hx hb dX4_discardOldest_43 rfl (lv_at hl 1 rfl) ?_
    refine lv_bipush (v := (nI 7)) hx hb dX4_discardOldest_44 (by decide) ?_
    refine w_put cx hP hD hS 0 4 0 rfl rfl (by decide) m_82 rfl rfl rfl (Nat.le_of_ble_eq_true rfl) dX4_discardOldest_46 ([ob h_t 4 [.int (nI 7), .ref h_t_saved]] ++ (grp g h_t_saved ga_h_t_saved fa_h_t_saved sa_h_t_saved na_h_t_saved (r_9.set (nI 7).toNatClampNeg y_5) C_t_saved)) rfl (fun H locs hP hD hS => ?_)
    obtain rfl := Option.some.inj hM
    exact hfin 49 _ _ _ dX4_discardOldest_49 hP hD hS
  clear hM
  have hL_9 : ∀ (n : Nat) (z_9 : Int32 × List Nat), it b_X4_discardOldest_9 n z_9 = some r_9 → ∀ (H : Heap) (locs : List Loc) (ls : Array Slot), va_P (gD g) vwCl ([ob h_t 4 [.int t_count, .ref h_t_saved]] ++ (grp g h_t_saved ga_h_t_saved fa_h_t_saved sa_h_t_saved na_h_t_saved z_9.2 C_t_saved)) H → va_D A ([ob h_t 4 [.int t_count, .ref h_t_saved]] ++ (grp g h_t_saved ga_h_t_saved fa_h_t_saved sa_h_t_saved na_h_t_saved z_9.2 C_t_saved)) → va_S A s.heap H locs → lv_has ls 3 [(2, .int z_9.1), (1, .ref (ga_h_t_saved y_5)), (0, .ref h_t)] → W p l e (rmv 0 0) s m args below meth c H locs 0 0 Q (F0 m 9 ls []) := by
    intro n
    induction n with
    | zero => intro z_9 hn; exact (it_zero hn).elim
    | succ n ih =>
      intro z_9 hn H locs ls hP hD hS hl
      obtain ⟨x, hM, hX⟩ := it_succ hn
      clear hn
      refine lv_iload_n hx hb dX4_discardOldest_9 rfl (lv_at hl 0 rfl) ?_
      refine lv_bipush (v := (nI 8)) hx hb dX4_discardOldest_10 (by decide) ?_
      refine lv_icmp_ge (tgt := 35) hx hb dX4_discardOldest_12 (by decide) (fun c_12 => ?_) (fun c_12 => ?_)
      · have hM := if_t hM c_12
        obtain rfl := Option.some.inj hM
        obtain rfl : _ = r_9 := hX
        exact hE_9_0 _ _ _ hP hD hS (lv_sub hl [1, 2] rfl)
      · have hM := if_f hM c_12
        refine lv_aload_n hx hb dX4_discardOldest_15 rfl (lv_at hl 2 rfl) ?_
        refine w_get cx hP 0 4 1 rfl rfl (by decide) m_84 rfl rfl dX4_discardOldest_16 ?_
        refine lv_iload_n hx hb dX4_discardOldest_19 rfl (lv_at hl 0 rfl) ?_
        refine lv_iconst (v := (nI 1)) hx hb dX4_discardOldest_20 (by decide) ?_
        refine lv_isub hx hb dX4_discardOldest_21 ?_
        refine lv_aload_n hx hb dX4_discardOldest_22 rfl (lv_at hl 2 rfl) ?_
        refine w_get cx hP 0 4 1 rfl rfl (by decide) m_84 rfl rfl dX4_discardOldest_23 ?_
        refine lv_iload_n hx hb dX4_discardOldest_26 rfl (lv_at hl 0 rfl) ?_
        obtain ⟨g_27, hM⟩ := gd_some hM
        obtain ⟨y_27, hy_27, hM⟩ := bd_some hM
        obtain ⟨ly_27, hM⟩ := gd_some hM
        refine w_aldG cx hP 1 rfl g_27 hy_27 dX4_discardOldest_27 ?_
        obtain ⟨g_28, hM⟩ := gd_some hM
        obtain ⟨g_28l, hM⟩ := gd_some hM
        refine w_astG cx hP hD hS 1 rfl g_28l g_28 (by rcases lt8 (ltq_lt ly_27) with rfl | rfl | rfl | rfl | rfl | rfl | rfl | rfl <;> first | exact ⟨2, _, rfl⟩ | exact ⟨6, _, rfl⟩ | exact ⟨10, _, rfl⟩ | exact ⟨14, _, rfl⟩ | exact ⟨18, _, rfl⟩ | exact ⟨22, _, rfl⟩ | exact ⟨26, _, rfl⟩ | exact ⟨30, _, rfl⟩) dX4_discardOldest_28 ([ob h_t 4 [.int t_count, .ref h_t_saved]] ++ (grp g h_t_saved ga_h_t_saved fa_h_t_saved sa_h_t_saved na_h_t_saved (z_9.2.set (z_9.1 - (nI 1)).toNatClampNeg y_27) C_t_saved)) rfl (fun H locs hP hD hS => ?_)
        refine lv_iinc (v := z_9.1 + (nI 1)) (lv' := [(2, .int (z_9.1 + (nI 1))), (1, .ref (ga_h_t_saved y_5)), (0, .ref h_t)]) hx hb dX4_discardOldest_29 hl (k := 0) rfl (congrArg (fun q => z_9.1 + q) (show Int32.ofInt (1) = (nI 1) by decide)) (by decide) rfl (fun ls hl => ?_)
        refine lv_goto (tgt := 9) hx hb dX4_discardOldest_32 (by decide) ?_
        obtain rfl := Option.some.inj hM
        exact ih _ hX _ _ _ hP hD hS (lv_sub hl [0, 1, 2] rfl)
  exact hL_9 n _ hn _ _ _ hP hD hS (lv_sub hl [0, 1, 2] rfl)
noncomputable def f_X4_save (t_count : Int32) (p1_vertices : Int32) (p1_edges : Int32) (a_p1_firsts : Nat → Int32) (a_p1_seconds : Nat → Int32) (a_p1_signs : Nat → Int32) (o_t_saved : List Nat) (C_t_saved : Nat → GC) : Option (Int32 × List Nat × (Nat → GC)) :=
  bd (if t_count < (nI 8) then some (t_count, o_t_saved) else bd (f_X4_discardOldest t_count o_t_saved C_t_saved) (fun (q_10 : Int32 × List Nat) => some (q_10.1, q_10.2))) (fun (j_6 : Int32 × List Nat) => gd (inb j_6.1 8) (bd (j_6.2[j_6.1.toNatClampNeg]?) (fun (y_21 : Nat) => gd (ltq y_21 8) (bd (f_X2_copyFrom ((C_t_saved y_21).1) ((C_t_saved y_21).2.1) ((C_t_saved y_21).2.2.1) ((C_t_saved y_21).2.2.2.1) ((C_t_saved y_21).2.2.2.2) p1_vertices p1_edges a_p1_firsts a_p1_seconds a_p1_signs) (fun (q_23 : Int32 × Int32 × (Nat → Int32) × (Nat → Int32) × (Nat → Int32)) => some ((j_6.1 + (nI 1)), j_6.2, upC C_t_saved y_21 (q_23.1, q_23.2.1, q_23.2.2.1, q_23.2.2.2.1, q_23.2.2.2.2)))))))
theorem yq_X4_save : yq yX4_save 1 := by unfold yq; decide +kernel
set_option maxHeartbeats 4000000 in
set_option maxRecDepth 100000 in
theorem c_X4_save (g : GG) (l : Launch) (h_t : Nat) (h_t_saved : Nat) (h_p1 : Nat) (h_p1_firsts : Nat) (h_p1_seconds : Nat) (h_p1_signs : Nat) (ga_h_t_saved : Nat → Nat) (fa_h_t_saved : Nat → Nat) (sa_h_t_saved : Nat → Nat) (na_h_t_saved : Nat → Nat) (t_count : Int32) (p1_vertices : Int32) (p1_edges : Int32) (a_p1_firsts : Nat → Int32) (a_p1_seconds : Nat → Int32) (a_p1_signs : Nat → Int32) (o_t_saved : List Nat) (C_t_saved : Nat → GC) {R : Int32 × List Nat × (Nat → GC)} (hM : f_X4_save t_count p1_vertices p1_edges a_p1_firsts a_p1_seconds a_p1_signs o_t_saved C_t_saved = some R) : CT g l yX4_save cX4_save 2 none 1 22 [.ref h_t, .ref h_p1] ([ob h_t 4 [.int t_count, .ref h_t_saved], ob h_p1 2 [.int p1_vertices, .int p1_edges, .ref h_p1_firsts, .ref h_p1_seconds, .ref h_p1_signs], aI g h_p1_firsts 9 a_p1_firsts, aI g h_p1_seconds 9 a_p1_seconds, aI g h_p1_signs 9 a_p1_signs] ++ (grp g h_t_saved ga_h_t_saved fa_h_t_saved sa_h_t_saved na_h_t_saved o_t_saved C_t_saved)) ([ob h_t 4 [.int R.1, .ref h_t_saved], ob h_p1 2 [.int p1_vertices, .int p1_edges, .ref h_p1_firsts, .ref h_p1_seconds, .ref h_p1_signs], aI g h_p1_firsts 9 a_p1_firsts, aI g h_p1_seconds 9 a_p1_seconds, aI g h_p1_signs 9 a_p1_signs] ++ (grp g h_t_saved ga_h_t_saved fa_h_t_saved sa_h_t_saved na_h_t_saved R.2.1 R.2.2)) none := by
  refine ct_v (by decide +kernel) (Nat.le_of_ble_eq_true rfl) ?_
  intro p e s m args below meth c Q A ls cx hP hD hA hl hfin
  obtain ⟨hx, hb, hml, hown, hts, hK⟩ := id cx
  have hl : lv_has ls 2 [(0, .ref h_t), (1, .ref h_p1)] := hl
  have hS : va_S A s.heap s.heap [] := va_S.rf
  refine lv_aload_n hx hb dX4_save_0 rfl (lv_at hl 0 rfl) ?_
  refine w_get cx hP 0 4 0 rfl rfl (by decide) m_82 rfl rfl dX4_save_1 ?_
  refine lv_bipush (v := (nI 8)) hx hb dX4_save_4 (by decide) ?_
  obtain ⟨j_6, hB, hM⟩ := bd_some hM
  have hJ_6 : ∀ (H : Heap) (locs : List Loc) (ls : Array Slot), va_P (gD g) vwCl ([ob h_t 4 [.int j_6.1, .ref h_t_saved], ob h_p1 2 [.int p1_vertices, .int p1_edges, .ref h_p1_firsts, .ref h_p1_seconds, .ref h_p1_signs], aI g h_p1_firsts 9 a_p1_firsts, aI g h_p1_seconds 9 a_p1_seconds, aI g h_p1_signs 9 a_p1_signs] ++ (grp g h_t_saved ga_h_t_saved fa_h_t_saved sa_h_t_saved na_h_t_saved j_6.2 C_t_saved)) H → va_D A ([ob h_t 4 [.int j_6.1, .ref h_t_saved], ob h_p1 2 [.int p1_vertices, .int p1_edges, .ref h_p1_firsts, .ref h_p1_seconds, .ref h_p1_signs], aI g h_p1_firsts 9 a_p1_firsts, aI g h_p1_seconds 9 a_p1_seconds, aI g h_p1_signs 9 a_p1_signs] ++ (grp g h_t_saved ga_h_t_saved fa_h_t_saved sa_h_t_saved na_h_t_saved j_6.2 C_t_saved)) → va_S A s.heap H locs → lv_has ls 2 [(0, .ref h_t), (1, .ref h_p1)] → W p l e (rmv 1 22) s m args below meth c H locs 0 0 Q (F0 m 13 ls []) := by
    intro H locs ls hP hD hS hl
    refine lv_aload_n hx hb dX4_save_13 rfl (lv_at hl 0 rfl) ?_
    refine w_get cx hP 0 4 1 rfl rfl (by decide) m_84 rfl rfl dX4_save_14 ?_
    refine lv_aload_n hx hb dX4_save_17 rfl (lv_at hl 0 rfl) ?_
    refine w_get cx hP 0 4 0 rfl rfl (by decide) m_82 rfl rfl dX4_save_18 ?_
    obtain ⟨g_21, hM⟩ := gd_some hM
    obtain ⟨y_21, hy_21, hM⟩ := bd_some hM
    obtain ⟨ly_21, hM⟩ := gd_some hM
    refine w_aldG cx hP 5 rfl g_21 hy_21 dX4_save_21 ?_
    refine lv_aload_n hx hb dX4_save_22 rfl (lv_at hl 1 rfl) ?_
    obtain ⟨q_23, hc_23, hM⟩ := bd_some hM
    have hG_23 : ∀ (H : Heap) (locs : List Loc), va_P (gD g) vwCl ([ob h_t 4 [.int j_6.1, .ref h_t_saved], ob h_p1 2 [.int p1_vertices, .int p1_edges, .ref h_p1_firsts, .ref h_p1_seconds, .ref h_p1_signs], aI g h_p1_firsts 9 a_p1_firsts, aI g h_p1_seconds 9 a_p1_seconds, aI g h_p1_signs 9 a_p1_signs] ++ (grp g h_t_saved ga_h_t_saved fa_h_t_saved sa_h_t_saved na_h_t_saved j_6.2 (upC C_t_saved y_21 (q_23.1, q_23.2.1, q_23.2.2.1, q_23.2.2.2.1, q_23.2.2.2.2)))) H → va_D A ([ob h_t 4 [.int j_6.1, .ref h_t_saved], ob h_p1 2 [.int p1_vertices, .int p1_edges, .ref h_p1_firsts, .ref h_p1_seconds, .ref h_p1_signs], aI g h_p1_firsts 9 a_p1_firsts, aI g h_p1_seconds 9 a_p1_seconds, aI g h_p1_signs 9 a_p1_signs] ++ (grp g h_t_saved ga_h_t_saved fa_h_t_saved sa_h_t_saved na_h_t_saved j_6.2 (upC C_t_saved y_21 (q_23.1, q_23.2.1, q_23.2.2.1, q_23.2.2.2.1, q_23.2.2.2.2)))) → va_S A s.heap H locs → W p l e (rmv 1 22) s m args below meth c H locs 0 0 Q (F0 m 26 ls []) := by
      intro H locs hP hD hS
      refine lv_aload_n hx hb dX4_save_26 rfl (lv_at hl 0 rfl) ?_
      refine lv_dup hx hb dX4_save_27 rfl ?_
      refine w_get cx hP 0 4 0 rfl rfl (by decide) m_82 rfl rfl dX4_save_28 ?_
      refine lv_iconst (v := (nI 1)) hx hb dX4_save_31 (by decide) ?_
      refine lv_iadd hx hb dX4_save_32 ?_
      refine w_put cx hP hD hS 0 4 0 rfl rfl (by decide) m_82 rfl rfl rfl (Nat.le_of_ble_eq_true rfl) dX4_save_33 ([ob h_t 4 [.int (j_6.1 + (nI 1)), .ref h_t_saved], ob h_p1 2 [.int p1_vertices, .int p1_edges, .ref h_p1_firsts, .ref h_p1_seconds, .ref h_p1_signs], aI g h_p1_firsts 9 a_p1_firsts, aI g h_p1_seconds 9 a_p1_seconds, aI g h_p1_signs 9 a_p1_signs] ++ (grp g h_t_saved ga_h_t_saved fa_h_t_saved sa_h_t_saved na_h_t_saved j_6.2 (upC C_t_saved y_21 (q_23.1, q_23.2.1, q_23.2.2.1, q_23.2.2.2.1, q_23.2.2.2.2)))) rfl (fun H locs hP hD hS => ?_)
      obtain rfl := Option.some.inj hM
      exact hfin 36 _ _ _ dX4_save_36 hP hD hS
    rcases lt8 (ltq_lt ly_21) with rfl | rfl | rfl | rfl | rfl | rfl | rfl | rfl
    · refine w_callV cx hP hD hS hA (c_X2_copyFrom g l (ga_h_t_saved 0) (fa_h_t_saved 0) (sa_h_t_saved 0) (na_h_t_saved 0) h_p1 h_p1_firsts h_p1_seconds h_p1_signs ((C_t_saved 0).1) ((C_t_saved 0).2.1) ((C_t_saved 0).2.2.1) ((C_t_saved 0).2.2.2.1) ((C_t_saved 0).2.2.2.2) p1_vertices p1_edges a_p1_firsts a_p1_seconds a_p1_signs hc_23) [6, 7, 8, 9, 1, 2, 3, 4] rfl (by decide) rfl ([ob h_t 4 [.int j_6.1, .ref h_t_saved], ob h_p1 2 [.int p1_vertices, .int p1_edges, .ref h_p1_firsts, .ref h_p1_seconds, .ref h_p1_signs], aI g h_p1_firsts 9 a_p1_firsts, aI g h_p1_seconds 9 a_p1_seconds, aI g h_p1_signs 9 a_p1_signs] ++ (grp g h_t_saved ga_h_t_saved fa_h_t_saved sa_h_t_saved na_h_t_saved j_6.2 (upC C_t_saved 0 (q_23.1, q_23.2.1, q_23.2.2.1, q_23.2.2.2.1, q_23.2.2.2.2)))) rfl 6 2 rfl rfl yq_X2_copyFrom rfl m_251 m_252 m_253 m_18 m_254 ⟨Nat.le_of_ble_eq_true rfl, Nat.le_of_ble_eq_true rfl⟩ rfl rfl hl.1 (Nat.le_of_ble_eq_true rfl) dX4_save_23 ⟨Nat.le_refl 0, Nat.le_refl 0⟩ rfl (fun H locs hP hD hS => ?_)
      exact hG_23 _ _ hP hD hS
    · refine w_callV cx hP hD hS hA (c_X2_copyFrom g l (ga_h_t_saved 1) (fa_h_t_saved 1) (sa_h_t_saved 1) (na_h_t_saved 1) h_p1 h_p1_firsts h_p1_seconds h_p1_signs ((C_t_saved 1).1) ((C_t_saved 1).2.1) ((C_t_saved 1).2.2.1) ((C_t_saved 1).2.2.2.1) ((C_t_saved 1).2.2.2.2) p1_vertices p1_edges a_p1_firsts a_p1_seconds a_p1_signs hc_23) [10, 11, 12, 13, 1, 2, 3, 4] rfl (by decide) rfl ([ob h_t 4 [.int j_6.1, .ref h_t_saved], ob h_p1 2 [.int p1_vertices, .int p1_edges, .ref h_p1_firsts, .ref h_p1_seconds, .ref h_p1_signs], aI g h_p1_firsts 9 a_p1_firsts, aI g h_p1_seconds 9 a_p1_seconds, aI g h_p1_signs 9 a_p1_signs] ++ (grp g h_t_saved ga_h_t_saved fa_h_t_saved sa_h_t_saved na_h_t_saved j_6.2 (upC C_t_saved 1 (q_23.1, q_23.2.1, q_23.2.2.1, q_23.2.2.2.1, q_23.2.2.2.2)))) rfl 10 2 rfl rfl yq_X2_copyFrom rfl m_251 m_252 m_253 m_18 m_254 ⟨Nat.le_of_ble_eq_true rfl, Nat.le_of_ble_eq_true rfl⟩ rfl rfl hl.1 (Nat.le_of_ble_eq_true rfl) dX4_save_23 ⟨Nat.le_refl 0, Nat.le_refl 0⟩ rfl (fun H locs hP hD hS => ?_)
      exact hG_23 _ _ hP hD hS
    · refine w_callV cx hP hD hS hA (c_X2_copyFrom g l (ga_h_t_saved 2) (fa_h_t_saved 2) (sa_h_t_saved 2) (na_h_t_saved 2) h_p1 h_p1_firsts h_p1_seconds h_p1_signs ((C_t_saved 2).1) ((C_t_saved 2).2.1) ((C_t_saved 2).2.2.1) ((C_t_saved 2).2.2.2.1) ((C_t_saved 2).2.2.2.2) p1_vertices p1_edges a_p1_firsts a_p1_seconds a_p1_signs hc_23) [14, 15, 16, 17, 1, 2, 3, 4] rfl (by decide) rfl ([ob h_t 4 [.int j_6.1, .ref h_t_saved], ob h_p1 2 [.int p1_vertices, .int p1_edges, .ref h_p1_firsts, .ref h_p1_seconds, .ref h_p1_signs], aI g h_p1_firsts 9 a_p1_firsts, aI g h_p1_seconds 9 a_p1_seconds, aI g h_p1_signs 9 a_p1_signs] ++ (grp g h_t_saved ga_h_t_saved fa_h_t_saved sa_h_t_saved na_h_t_saved j_6.2 (upC C_t_saved 2 (q_23.1, q_23.2.1, q_23.2.2.1, q_23.2.2.2.1, q_23.2.2.2.2)))) rfl 14 2 rfl rfl yq_X2_copyFrom rfl m_251 m_252 m_253 m_18 m_254 ⟨Nat.le_of_ble_eq_true rfl, Nat.le_of_ble_eq_true rfl⟩ rfl rfl hl.1 (Nat.le_of_ble_eq_true rfl) dX4_save_23 ⟨Nat.le_refl 0, Nat.le_refl 0⟩ rfl (fun H locs hP hD hS => ?_)
      exact hG_23 _ _ hP hD hS
    · refine w_callV cx hP hD hS hA (c_X2_copyFrom g l (ga_h_t_saved 3) (fa_h_t_saved 3) (sa_h_t_saved 3) (na_h_t_saved 3) h_p1 h_p1_firsts h_p1_seconds h_p1_signs ((C_t_saved 3).1) ((C_t_saved 3).2.1) ((C_t_saved 3).2.2.1) ((C_t_saved 3).2.2.2.1) ((C_t_saved 3).2.2.2.2) p1_vertices p1_edges a_p1_firsts a_p1_seconds a_p1_signs hc_23) [18, 19, 20, 21, 1, 2, 3, 4] rfl (by decide) rfl ([ob h_t 4 [.int j_6.1, .ref h_t_saved], ob h_p1 2 [.int p1_vertices, .int p1_edges, .ref h_p1_firsts, .ref h_p1_seconds, .ref h_p1_signs], aI g h_p1_firsts 9 a_p1_firsts, aI g h_p1_seconds 9 a_p1_seconds, aI g h_p1_signs 9 a_p1_signs] ++ (grp g h_t_saved ga_h_t_saved fa_h_t_saved sa_h_t_saved na_h_t_saved j_6.2 (upC C_t_saved 3 (q_23.1, q_23.2.1, q_23.2.2.1, q_23.2.2.2.1, q_23.2.2.2.2)))) rfl 18 2 rfl rfl yq_X2_copyFrom rfl m_251 m_252 m_253 m_18 m_254 ⟨Nat.le_of_ble_eq_true rfl, Nat.le_of_ble_eq_true rfl⟩ rfl rfl hl.1 (Nat.le_of_ble_eq_true rfl) dX4_save_23 ⟨Nat.le_refl 0, Nat.le_refl 0⟩ rfl (fun H locs hP hD hS => ?_)
      exact hG_23 _ _ hP hD hS
    · refine w_callV cx hP hD hS hA (c_X2_copyFrom g l (ga_h_t_saved 4) (fa_h_t_saved 4) (sa_h_t_saved 4) (na_h_t_saved 4) h_p1 h_p1_firsts h_p1_seconds h_p1_signs ((C_t_saved 4).1) ((C_t_saved 4).2.1) ((C_t_saved 4).2.2.1) ((C_t_saved 4).2.2.2.1) ((C_t_saved 4).2.2.2.2) p1_vertices p1_edges a_p1_firsts a_p1_seconds a_p1_signs hc_23) [22, 23, 24, 25, 1, 2, 3, 4] rfl (by decide) rfl ([ob h_t 4 [.int j_6.1, .ref h_t_saved], ob h_p1 2 [.int p1_vertices, .int p1_edges, .ref h_p1_firsts, .ref h_p1_seconds, .ref h_p1_signs], aI g h_p1_firsts 9 a_p1_firsts, aI g h_p1_seconds 9 a_p1_seconds, aI g h_p1_signs 9 a_p1_signs] ++ (grp g h_t_saved ga_h_t_saved fa_h_t_saved sa_h_t_saved na_h_t_saved j_6.2 (upC C_t_saved 4 (q_23.1, q_23.2.1, q_23.2.2.1, q_23.2.2.2.1, q_23.2.2.2.2)))) rfl 22 2 rfl rfl yq_X2_copyFrom rfl m_251 m_252 m_253 m_18 m_254 ⟨Nat.le_of_ble_eq_true rfl, Nat.le_of_ble_eq_true rfl⟩ rfl rfl hl.1 (Nat.le_of_ble_eq_true rfl) dX4_save_23 ⟨Nat.le_refl 0, Nat.le_refl 0⟩ rfl (fun H locs hP hD hS => ?_)
      exact hG_23 _ _ hP hD hS
    · refine w_callV cx hP hD hS hA (c_X2_copyFrom g l (ga_h_t_saved 5) (fa_h_t_saved 5) (sa_h_t_saved 5) (na_h_t_saved 5) h_p1 h_p1_firsts h_p1_seconds h_p1_signs ((C_t_saved 5).1) ((C_t_saved 5).2.1) ((C_t_saved 5).2.2.1) ((C_t_saved 5).2.2.2.1) ((C_t_saved 5).2.2.2.2) p1_vertices p1_edges a_p1_firsts a_p1_seconds a_p1_signs hc_23) [26, 27, 28, 29, 1, 2, 3, 4] rfl (by decide) rfl ([ob h_t 4 [.int j_6.1, .ref h_t_saved], ob h_p1 2 [.int p1_vertices, .int p1_edges, .ref h_p1_firsts, .ref h_p1_seconds, .ref h_p1_signs], aI g h_p1_firsts 9 a_p1_firsts, aI g h_p1_seconds 9 a_p1_seconds, aI g h_p1_signs 9 a_p1_signs] ++ (grp g h_t_saved ga_h_t_saved fa_h_t_saved sa_h_t_saved na_h_t_saved j_6.2 (upC C_t_saved 5 (q_23.1, q_23.2.1, q_23.2.2.1, q_23.2.2.2.1, q_23.2.2.2.2)))) rfl 26 2 rfl rfl yq_X2_copyFrom rfl m_251 m_252 m_253 m_18 m_254 ⟨Nat.le_of_ble_eq_true rfl, Nat.le_of_ble_eq_true rfl⟩ rfl rfl hl.1 (Nat.le_of_ble_eq_true rfl) dX4_save_23 ⟨Nat.le_refl 0, Nat.le_refl 0⟩ rfl (fun H locs hP hD hS => ?_)
      exact hG_23 _ _ hP hD hS
    · refine w_callV cx hP hD hS hA (c_X2_copyFrom g l (ga_h_t_saved 6) (fa_h_t_saved 6) (sa_h_t_saved 6) (na_h_t_saved 6) h_p1 h_p1_firsts h_p1_seconds h_p1_signs ((C_t_saved 6).1) ((C_t_saved 6).2.1) ((C_t_saved 6).2.2.1) ((C_t_saved 6).2.2.2.1) ((C_t_saved 6).2.2.2.2) p1_vertices p1_edges a_p1_firsts a_p1_seconds a_p1_signs hc_23) [30, 31, 32, 33, 1, 2, 3, 4] rfl (by decide) rfl ([ob h_t 4 [.int j_6.1, .ref h_t_saved], ob h_p1 2 [.int p1_vertices, .int p1_edges, .ref h_p1_firsts, .ref h_p1_seconds, .ref h_p1_signs], aI g h_p1_firsts 9 a_p1_firsts, aI g h_p1_seconds 9 a_p1_seconds, aI g h_p1_signs 9 a_p1_signs] ++ (grp g h_t_saved ga_h_t_saved fa_h_t_saved sa_h_t_saved na_h_t_saved j_6.2 (upC C_t_saved 6 (q_23.1, q_23.2.1, q_23.2.2.1, q_23.2.2.2.1, q_23.2.2.2.2)))) rfl 30 2 rfl rfl yq_X2_copyFrom rfl m_251 m_252 m_253 m_18 m_254 ⟨Nat.le_of_ble_eq_true rfl, Nat.le_of_ble_eq_true rfl⟩ rfl rfl hl.1 (Nat.le_of_ble_eq_true rfl) dX4_save_23 ⟨Nat.le_refl 0, Nat.le_refl 0⟩ rfl (fun H locs hP hD hS => ?_)
      exact hG_23 _ _ hP hD hS
    · refine w_callV cx hP hD hS hA (c_X2_copyFrom g l (ga_h_t_saved 7) (fa_h_t_saved 7) (sa_h_t_saved 7) (na_h_t_saved 7) h_p1 h_p1_firsts h_p1_seconds h_p1_signs ((C_t_saved 7).1) ((C_t_saved 7).2.1) ((C_t_saved 7).2.2.1) ((C_t_saved 7).2.2.2.1) ((C_t_saved 7).2.2.2.2) p1_vertices p1_edges a_p1_firsts a_p1_seconds a_p1_signs hc_23) [34, 35, 36, 37, 1, 2, 3, 4] rfl (by decide) rfl ([ob h_t 4 [.int j_6.1, .ref h_t_saved], ob h_p1 2 [.int p1_vertices, .int p1_edges, .ref h_p1_firsts, .ref h_p1_seconds, .ref h_p1_signs], aI g h_p1_firsts 9 a_p1_firsts, aI g h_p1_seconds 9 a_p1_seconds, aI g h_p1_signs 9 a_p1_signs] ++ (grp g h_t_saved ga_h_t_saved fa_h_t_saved sa_h_t_saved na_h_t_saved j_6.2 (upC C_t_saved 7 (q_23.1, q_23.2.1, q_23.2.2.1, q_23.2.2.2.1, q_23.2.2.2.2)))) rfl 34 2 rfl rfl yq_X2_copyFrom rfl m_251 m_252 m_253 m_18 m_254 ⟨Nat.le_of_ble_eq_true rfl, Nat.le_of_ble_eq_true rfl⟩ rfl rfl hl.1 (Nat.le_of_ble_eq_true rfl) dX4_save_23 ⟨Nat.le_refl 0, Nat.le_refl 0⟩ rfl (fun H locs hP hD hS => ?_)
      exact hG_23 _ _ hP hD hS
  clear hM
  have hM := hB
  clear hB
  refine lv_icmp_lt (tgt := 13) hx hb dX4_save_6 (by decide) (fun c_6 => ?_) (fun c_6 => ?_)
  · have hM := if_t hM c_6
    obtain rfl := Option.some.inj hM
    exact hJ_6 _ _ _ hP hD hS (lv_sub hl [0, 1] rfl)
  · have hM := if_f hM c_6
    refine lv_aload_n hx hb dX4_save_9 rfl (lv_at hl 0 rfl) ?_
    obtain ⟨q_10, hc_10, hM⟩ := bd_some hM
    refine w_callV cx hP hD hS hA (c_X4_discardOldest g l h_t h_t_saved ga_h_t_saved fa_h_t_saved sa_h_t_saved na_h_t_saved t_count o_t_saved C_t_saved hc_10) ([0] ++ blk 5 33) (blk_C rfl grp_len rfl) (blk_nd (by decide) (by decide)) (blk_f rfl grp_f) ([ob h_t 4 [.int q_10.1, .ref h_t_saved], ob h_p1 2 [.int p1_vertices, .int p1_edges, .ref h_p1_firsts, .ref h_p1_seconds, .ref h_p1_signs], aI g h_p1_firsts 9 a_p1_firsts, aI g h_p1_seconds 9 a_p1_seconds, aI g h_p1_signs 9 a_p1_signs] ++ (grp g h_t_saved ga_h_t_saved fa_h_t_saved sa_h_t_saved na_h_t_saved q_10.2 C_t_saved)) (blk_S rfl grp_len grp_len rfl (by decide) rfl) 0 4 rfl rfl yq_X4_discardOldest rfl m_247 m_249 m_0 m_19 m_250 ⟨Nat.le_of_ble_eq_true rfl, Nat.le_of_ble_eq_true rfl⟩ rfl rfl hl.1 (Nat.le_of_ble_eq_true rfl) dX4_save_10 ⟨Nat.le_refl 0, Nat.le_refl 0⟩ rfl (fun H locs hP hD hS => ?_)
    obtain rfl := Option.some.inj hM
    exact hJ_6 _ _ _ hP hD hS (lv_sub hl [0, 1] rfl)
noncomputable def f_X4_restore (t_count : Int32) (p1_vertices : Int32) (p1_edges : Int32) (a_p1_firsts : Nat → Int32) (a_p1_seconds : Nat → Int32) (a_p1_signs : Nat → Int32) (o_t_saved : List Nat) (C_t_saved : Nat → GC) : Option (Int32 × Int32 × Int32 × (Nat → Int32) × (Nat → Int32) × (Nat → Int32)) :=
  if t_count ≤ 0 then some (t_count, p1_vertices, p1_edges, a_p1_firsts, a_p1_seconds, a_p1_signs) else gd (inb (t_count - (nI 1)) 8) (bd (o_t_saved[(t_count - (nI 1)).toNatClampNeg]?) (fun (y_26 : Nat) => gd (ltq y_26 8) (bd (f_X2_copyFrom p1_vertices p1_edges a_p1_firsts a_p1_seconds a_p1_signs ((C_t_saved y_26).1) ((C_t_saved y_26).2.1) ((C_t_saved y_26).2.2.1) ((C_t_saved y_26).2.2.2.1) ((C_t_saved y_26).2.2.2.2)) (fun (q_27 : Int32 × Int32 × (Nat → Int32) × (Nat → Int32) × (Nat → Int32)) => some ((t_count - (nI 1)), q_27.1, q_27.2.1, q_27.2.2.1, q_27.2.2.2.1, q_27.2.2.2.2)))))
theorem yq_X4_restore : yq yX4_restore 1 := by unfold yq; decide +kernel
set_option maxHeartbeats 4000000 in
set_option maxRecDepth 100000 in
theorem c_X4_restore (g : GG) (l : Launch) (h_t : Nat) (h_t_saved : Nat) (h_p1 : Nat) (h_p1_firsts : Nat) (h_p1_seconds : Nat) (h_p1_signs : Nat) (ga_h_t_saved : Nat → Nat) (fa_h_t_saved : Nat → Nat) (sa_h_t_saved : Nat → Nat) (na_h_t_saved : Nat → Nat) (t_count : Int32) (p1_vertices : Int32) (p1_edges : Int32) (a_p1_firsts : Nat → Int32) (a_p1_seconds : Nat → Int32) (a_p1_signs : Nat → Int32) (o_t_saved : List Nat) (C_t_saved : Nat → GC) {R : Int32 × Int32 × Int32 × (Nat → Int32) × (Nat → Int32) × (Nat → Int32)} (hM : f_X4_restore t_count p1_vertices p1_edges a_p1_firsts a_p1_seconds a_p1_signs o_t_saved C_t_saved = some R) : CT g l yX4_restore cX4_restore 2 none 1 22 [.ref h_t, .ref h_p1] ([ob h_t 4 [.int t_count, .ref h_t_saved], ob h_p1 2 [.int p1_vertices, .int p1_edges, .ref h_p1_firsts, .ref h_p1_seconds, .ref h_p1_signs], aI g h_p1_firsts 9 a_p1_firsts, aI g h_p1_seconds 9 a_p1_seconds, aI g h_p1_signs 9 a_p1_signs] ++ (grp g h_t_saved ga_h_t_saved fa_h_t_saved sa_h_t_saved na_h_t_saved o_t_saved C_t_saved)) ([ob h_t 4 [.int R.1, .ref h_t_saved], ob h_p1 2 [.int R.2.1, .int R.2.2.1, .ref h_p1_firsts, .ref h_p1_seconds, .ref h_p1_signs], aI g h_p1_firsts 9 R.2.2.2.1, aI g h_p1_seconds 9 R.2.2.2.2.1, aI g h_p1_signs 9 R.2.2.2.2.2] ++ (grp g h_t_saved ga_h_t_saved fa_h_t_saved sa_h_t_saved na_h_t_saved o_t_saved C_t_saved)) none := by
  refine ct_v (by decide +kernel) (Nat.le_of_ble_eq_true rfl) ?_
  intro p e s m args below meth c Q A ls cx hP hD hA hl hfin
  obtain ⟨hx, hb, hml, hown, hts, hK⟩ := id cx
  have hl : lv_has ls 2 [(0, .ref h_t), (1, .ref h_p1)] := hl
  have hS : va_S A s.heap s.heap [] := va_S.rf
  refine lv_aload_n hx hb dX4_restore_0 rfl (lv_at hl 0 rfl) ?_
  refine w_get cx hP 0 4 0 rfl rfl (by decide) m_82 rfl rfl dX4_restore_1 ?_
  refine lv_if_le (tgt := 30) hx hb dX4_restore_4 (by decide) (fun c_4 => ?_) (fun c_4 => ?_)
  · have hM := if_t hM c_4
    obtain rfl := Option.some.inj hM
    exact hfin 30 _ _ _ dX4_restore_30 hP hD hS
  · have hM := if_f hM c_4
    refine lv_aload_n hx hb dX4_restore_7 rfl (lv_at hl 0 rfl) ?_
    refine lv_dup hx hb dX4_restore_8 rfl ?_
    refine w_get cx hP 0 4 0 rfl rfl (by decide) m_82 rfl rfl dX4_restore_9 ?_
    refine lv_iconst (v := (nI 1)) hx hb dX4_restore_12 (by decide) ?_
    refine lv_isub hx hb dX4_restore_13 ?_
    refine w_put cx hP hD hS 0 4 0 rfl rfl (by decide) m_82 rfl rfl rfl (Nat.le_of_ble_eq_true rfl) dX4_restore_14 ([ob h_t 4 [.int (t_count - (nI 1)), .ref h_t_saved], ob h_p1 2 [.int p1_vertices, .int p1_edges, .ref h_p1_firsts, .ref h_p1_seconds, .ref h_p1_signs], aI g h_p1_firsts 9 a_p1_firsts, aI g h_p1_seconds 9 a_p1_seconds, aI g h_p1_signs 9 a_p1_signs] ++ (grp g h_t_saved ga_h_t_saved fa_h_t_saved sa_h_t_saved na_h_t_saved o_t_saved C_t_saved)) rfl (fun H locs hP hD hS => ?_)
    refine lv_aload_n hx hb dX4_restore_17 rfl (lv_at hl 1 rfl) ?_
    refine lv_aload_n hx hb dX4_restore_18 rfl (lv_at hl 0 rfl) ?_
    refine w_get cx hP 0 4 1 rfl rfl (by decide) m_84 rfl rfl dX4_restore_19 ?_
    refine lv_aload_n hx hb dX4_restore_22 rfl (lv_at hl 0 rfl) ?_
    refine w_get cx hP 0 4 0 rfl rfl (by decide) m_82 rfl rfl dX4_restore_23 ?_
    obtain ⟨g_26, hM⟩ := gd_some hM
    obtain ⟨y_26, hy_26, hM⟩ := bd_some hM
    obtain ⟨ly_26, hM⟩ := gd_some hM
    refine w_aldG cx hP 5 rfl g_26 hy_26 dX4_restore_26 ?_
    obtain ⟨q_27, hc_27, hM⟩ := bd_some hM
    have hG_27 : ∀ (H : Heap) (locs : List Loc), va_P (gD g) vwCl ([ob h_t 4 [.int (t_count - (nI 1)), .ref h_t_saved], ob h_p1 2 [.int q_27.1, .int q_27.2.1, .ref h_p1_firsts, .ref h_p1_seconds, .ref h_p1_signs], aI g h_p1_firsts 9 q_27.2.2.1, aI g h_p1_seconds 9 q_27.2.2.2.1, aI g h_p1_signs 9 q_27.2.2.2.2] ++ (grp g h_t_saved ga_h_t_saved fa_h_t_saved sa_h_t_saved na_h_t_saved o_t_saved C_t_saved)) H → va_D A ([ob h_t 4 [.int (t_count - (nI 1)), .ref h_t_saved], ob h_p1 2 [.int q_27.1, .int q_27.2.1, .ref h_p1_firsts, .ref h_p1_seconds, .ref h_p1_signs], aI g h_p1_firsts 9 q_27.2.2.1, aI g h_p1_seconds 9 q_27.2.2.2.1, aI g h_p1_signs 9 q_27.2.2.2.2] ++ (grp g h_t_saved ga_h_t_saved fa_h_t_saved sa_h_t_saved na_h_t_saved o_t_saved C_t_saved)) → va_S A s.heap H locs → W p l e (rmv 1 22) s m args below meth c H locs 0 0 Q (F0 m 30 ls []) := by
      intro H locs hP hD hS
      obtain rfl := Option.some.inj hM
      exact hfin 30 _ _ _ dX4_restore_30 hP hD hS
    rcases lt8 (ltq_lt ly_26) with rfl | rfl | rfl | rfl | rfl | rfl | rfl | rfl
    · refine w_callV cx hP hD hS hA (c_X2_copyFrom g l h_p1 h_p1_firsts h_p1_seconds h_p1_signs (ga_h_t_saved 0) (fa_h_t_saved 0) (sa_h_t_saved 0) (na_h_t_saved 0) p1_vertices p1_edges a_p1_firsts a_p1_seconds a_p1_signs ((C_t_saved 0).1) ((C_t_saved 0).2.1) ((C_t_saved 0).2.2.1) ((C_t_saved 0).2.2.2.1) ((C_t_saved 0).2.2.2.2) hc_27) [1, 2, 3, 4, 6, 7, 8, 9] rfl (by decide) rfl ([ob h_t 4 [.int (t_count - (nI 1)), .ref h_t_saved], ob h_p1 2 [.int q_27.1, .int q_27.2.1, .ref h_p1_firsts, .ref h_p1_seconds, .ref h_p1_signs], aI g h_p1_firsts 9 q_27.2.2.1, aI g h_p1_seconds 9 q_27.2.2.2.1, aI g h_p1_signs 9 q_27.2.2.2.2] ++ (grp g h_t_saved ga_h_t_saved fa_h_t_saved sa_h_t_saved na_h_t_saved o_t_saved C_t_saved)) rfl 1 2 rfl rfl yq_X2_copyFrom rfl m_251 m_252 m_253 m_18 m_254 ⟨Nat.le_of_ble_eq_true rfl, Nat.le_of_ble_eq_true rfl⟩ rfl rfl hl.1 (Nat.le_of_ble_eq_true rfl) dX4_restore_27 ⟨Nat.le_refl 0, Nat.le_refl 0⟩ rfl (fun H locs hP hD hS => ?_)
      exact hG_27 _ _ hP hD hS
    · refine w_callV cx hP hD hS hA (c_X2_copyFrom g l h_p1 h_p1_firsts h_p1_seconds h_p1_signs (ga_h_t_saved 1) (fa_h_t_saved 1) (sa_h_t_saved 1) (na_h_t_saved 1) p1_vertices p1_edges a_p1_firsts a_p1_seconds a_p1_signs ((C_t_saved 1).1) ((C_t_saved 1).2.1) ((C_t_saved 1).2.2.1) ((C_t_saved 1).2.2.2.1) ((C_t_saved 1).2.2.2.2) hc_27) [1, 2, 3, 4, 10, 11, 12, 13] rfl (by decide) rfl ([ob h_t 4 [.int (t_count - (nI 1)), .ref h_t_saved], ob h_p1 2 [.int q_27.1, .int q_27.2.1, .ref h_p1_firsts, .ref h_p1_seconds, .ref h_p1_signs], aI g h_p1_firsts 9 q_27.2.2.1, aI g h_p1_seconds 9 q_27.2.2.2.1, aI g h_p1_signs 9 q_27.2.2.2.2] ++ (grp g h_t_saved ga_h_t_saved fa_h_t_saved sa_h_t_saved na_h_t_saved o_t_saved C_t_saved)) rfl 1 2 rfl rfl yq_X2_copyFrom rfl m_251 m_252 m_253 m_18 m_254 ⟨Nat.le_of_ble_eq_true rfl, Nat.le_of_ble_eq_true rfl⟩ rfl rfl hl.1 (Nat.le_of_ble_eq_true rfl) dX4_restore_27 ⟨Nat.le_refl 0, Nat.le_refl 0⟩ rfl (fun H locs hP hD hS => ?_)
      exact hG_27 _ _ hP hD hS
    · refine w_callV cx hP hD hS hA (c_X2_copyFrom g l h_p1 h_p1_firsts h_p1_seconds h_p1_signs (ga_h_t_saved 2) (fa_h_t_saved 2) (sa_h_t_saved 2) (na_h_t_saved 2) p1_vertices p1_edges a_p1_firsts a_p1_seconds a_p1_signs ((C_t_saved 2).1) ((C_t_saved 2).2.1) ((C_t_saved 2).2.2.1) ((C_t_saved 2).2.2.2.1) ((C_t_saved 2).2.2.2.2) hc_27) [1, 2, 3, 4, 14, 15, 16, 17] rfl (by decide) rfl ([ob h_t 4 [.int (t_count - (nI 1)), .ref h_t_saved], ob h_p1 2 [.int q_27.1, .int q_27.2.1, .ref h_p1_firsts, .ref h_p1_seconds, .ref h_p1_signs], aI g h_p1_firsts 9 q_27.2.2.1, aI g h_p1_seconds 9 q_27.2.2.2.1, aI g h_p1_signs 9 q_27.2.2.2.2] ++ (grp g h_t_saved ga_h_t_saved fa_h_t_saved sa_h_t_saved na_h_t_saved o_t_saved C_t_saved)) rfl 1 2 rfl rfl yq_X2_copyFrom rfl m_251 m_252 m_253 m_18 m_254 ⟨Nat.le_of_ble_eq_true rfl, Nat.le_of_ble_eq_true rfl⟩ rfl rfl hl.1 (Nat.le_of_ble_eq_true rfl) dX4_restore_27 ⟨Nat.le_refl 0, Nat.le_refl 0⟩ rfl (fun H locs hP hD hS => ?_)
      exact hG_27 _ _ hP hD hS
    · refine w_callV cx hP hD hS hA (c_X2_copyFrom g l h_p1 h_p1_firsts h_p1_seconds h_p1_signs (ga_h_t_saved 3) (fa_h_t_saved 3) (sa_h_t_saved 3) (na_h_t_saved 3) p1_vertices p1_edges a_p1_firsts a_p1_seconds a_p1_signs ((C_t_saved 3).1) ((C_t_saved 3).2.1) ((C_t_saved 3).2.2.1) ((C_t_saved 3).2.2.2.1) ((C_t_saved 3).2.2.2.2) hc_27) [1, 2, 3, 4, 18, 19, 20, 21] rfl (by decide) rfl ([ob h_t 4 [.int (t_count - (nI 1)), .ref h_t_saved], ob h_p1 2 [.int q_27.1, .int q_27.2.1, .ref h_p1_firsts, .ref h_p1_seconds, .ref h_p1_signs], aI g h_p1_firsts 9 q_27.2.2.1, aI g h_p1_seconds 9 q_27.2.2.2.1, aI g h_p1_signs 9 q_27.2.2.2.2] ++ (grp g h_t_saved ga_h_t_saved fa_h_t_saved sa_h_t_saved na_h_t_saved o_t_saved C_t_saved)) rfl 1 2 rfl rfl yq_X2_copyFrom rfl m_251 m_252 m_253 m_18 m_254 ⟨Nat.le_of_ble_eq_true rfl, Nat.le_of_ble_eq_true rfl⟩ rfl rfl hl.1 (Nat.le_of_ble_eq_true rfl) dX4_restore_27 ⟨Nat.le_refl 0, Nat.le_refl 0⟩ rfl (fun H locs hP hD hS => ?_)
      exact hG_27 _ _ hP hD hS
    · refine w_callV cx hP hD hS hA (c_X2_copyFrom g l h_p1 h_p1_firsts h_p1_seconds h_p1_signs (ga_h_t_saved 4) (fa_h_t_saved 4) (sa_h_t_saved 4) (na_h_t_saved 4) p1_vertices p1_edges a_p1_firsts a_p1_seconds a_p1_signs ((C_t_saved 4).1) ((C_t_saved 4).2.1) ((C_t_saved 4).2.2.1) ((C_t_saved 4).2.2.2.1) ((C_t_saved 4).2.2.2.2) hc_27) [1, 2, 3, 4, 22, 23, 24, 25] rfl (by decide) rfl ([ob h_t 4 [.int (t_count - (nI 1)), .ref h_t_saved], ob h_p1 2 [.int q_27.1, .int q_27.2.1, .ref h_p1_firsts, .ref h_p1_seconds, .ref h_p1_signs], aI g h_p1_firsts 9 q_27.2.2.1, aI g h_p1_seconds 9 q_27.2.2.2.1, aI g h_p1_signs 9 q_27.2.2.2.2] ++ (grp g h_t_saved ga_h_t_saved fa_h_t_saved sa_h_t_saved na_h_t_saved o_t_saved C_t_saved)) rfl 1 2 rfl rfl yq_X2_copyFrom rfl m_251 m_252 m_253 m_18 m_254 ⟨Nat.le_of_ble_eq_true rfl, Nat.le_of_ble_eq_true rfl⟩ rfl rfl hl.1 (Nat.le_of_ble_eq_true rfl) dX4_restore_27 ⟨Nat.le_refl 0, Nat.le_refl 0⟩ rfl (fun H locs hP hD hS => ?_)
      exact hG_27 _ _ hP hD hS
    · refine w_callV cx hP hD hS hA (c_X2_copyFrom g l h_p1 h_p1_firsts h_p1_seconds h_p1_signs (ga_h_t_saved 5) (fa_h_t_saved 5) (sa_h_t_saved 5) (na_h_t_saved 5) p1_vertices p1_edges a_p1_firsts a_p1_seconds a_p1_signs ((C_t_saved 5).1) ((C_t_saved 5).2.1) ((C_t_saved 5).2.2.1) ((C_t_saved 5).2.2.2.1) ((C_t_saved 5).2.2.2.2) hc_27) [1, 2, 3, 4, 26, 27, 28, 29] rfl (by decide) rfl ([ob h_t 4 [.int (t_count - (nI 1)), .ref h_t_saved], ob h_p1 2 [.int q_27.1, .int q_27.2.1, .ref h_p1_firsts, .ref h_p1_seconds, .ref h_p1_signs], aI g h_p1_firsts 9 q_27.2.2.1, aI g h_p1_seconds 9 q_27.2.2.2.1, aI g h_p1_signs 9 q_27.2.2.2.2] ++ (grp g h_t_saved ga_h_t_saved fa_h_t_saved sa_h_t_saved na_h_t_saved o_t_saved C_t_saved)) rfl 1 2 rfl rfl yq_X2_copyFrom rfl m_251 m_252 m_253 m_18 m_254 ⟨Nat.le_of_ble_eq_true rfl, Nat.le_of_ble_eq_true rfl⟩ rfl rfl hl.1 (Nat.le_of_ble_eq_true rfl) dX4_restore_27 ⟨Nat.le_refl 0, Nat.le_refl 0⟩ rfl (fun H locs hP hD hS => ?_)
      exact hG_27 _ _ hP hD hS
    · refine w_callV cx hP hD hS hA (c_X2_copyFrom g l h_p1 h_p1_firsts h_p1_seconds h_p1_signs (ga_h_t_saved 6) (fa_h_t_saved 6) (sa_h_t_saved 6) (na_h_t_saved 6) p1_vertices p1_edges a_p1_firsts a_p1_seconds a_p1_signs ((C_t_saved 6).1) ((C_t_saved 6).2.1) ((C_t_saved 6).2.2.1) ((C_t_saved 6).2.2.2.1) ((C_t_saved 6).2.2.2.2) hc_27) [1, 2, 3, 4, 30, 31, 32, 33] rfl (by decide) rfl ([ob h_t 4 [.int (t_count - (nI 1)), .ref h_t_saved], ob h_p1 2 [.int q_27.1, .int q_27.2.1, .ref h_p1_firsts, .ref h_p1_seconds, .ref h_p1_signs], aI g h_p1_firsts 9 q_27.2.2.1, aI g h_p1_seconds 9 q_27.2.2.2.1, aI g h_p1_signs 9 q_27.2.2.2.2] ++ (grp g h_t_saved ga_h_t_saved fa_h_t_saved sa_h_t_saved na_h_t_saved o_t_saved C_t_saved)) rfl 1 2 rfl rfl yq_X2_copyFrom rfl m_251 m_252 m_253 m_18 m_254 ⟨Nat.le_of_ble_eq_true rfl, Nat.le_of_ble_eq_true rfl⟩ rfl rfl hl.1 (Nat.le_of_ble_eq_true rfl) dX4_restore_27 ⟨Nat.le_refl 0, Nat.le_refl 0⟩ rfl (fun H locs hP hD hS => ?_)
      exact hG_27 _ _ hP hD hS
    · refine w_callV cx hP hD hS hA (c_X2_copyFrom g l h_p1 h_p1_firsts h_p1_seconds h_p1_signs (ga_h_t_saved 7) (fa_h_t_saved 7) (sa_h_t_saved 7) (na_h_t_saved 7) p1_vertices p1_edges a_p1_firsts a_p1_seconds a_p1_signs ((C_t_saved 7).1) ((C_t_saved 7).2.1) ((C_t_saved 7).2.2.1) ((C_t_saved 7).2.2.2.1) ((C_t_saved 7).2.2.2.2) hc_27) [1, 2, 3, 4, 34, 35, 36, 37] rfl (by decide) rfl ([ob h_t 4 [.int (t_count - (nI 1)), .ref h_t_saved], ob h_p1 2 [.int q_27.1, .int q_27.2.1, .ref h_p1_firsts, .ref h_p1_seconds, .ref h_p1_signs], aI g h_p1_firsts 9 q_27.2.2.1, aI g h_p1_seconds 9 q_27.2.2.2.1, aI g h_p1_signs 9 q_27.2.2.2.2] ++ (grp g h_t_saved ga_h_t_saved fa_h_t_saved sa_h_t_saved na_h_t_saved o_t_saved C_t_saved)) rfl 1 2 rfl rfl yq_X2_copyFrom rfl m_251 m_252 m_253 m_18 m_254 ⟨Nat.le_of_ble_eq_true rfl, Nat.le_of_ble_eq_true rfl⟩ rfl rfl hl.1 (Nat.le_of_ble_eq_true rfl) dX4_restore_27 ⟨Nat.le_refl 0, Nat.le_refl 0⟩ rfl (fun H locs hP hD hS => ?_)
      exact hG_27 _ _ hP hD hS
