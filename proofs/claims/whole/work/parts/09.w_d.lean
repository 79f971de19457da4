noncomputable def f_X9_in (p1 : Int32) (p2 : Int32) (p3 : Int32) : Option (Int32) :=
  if p1 < p2 then some (nI 0) else if p3 < p1 then some (nI 0) else some (nI 1)
theorem yq_X9_in : yq yX9_in 3 := by unfold yq; decide +kernel
set_option maxHeartbeats 4000000 in
set_option maxRecDepth 100000 in
theorem c_X9_in (g : GG) (l : Launch) (p1 : Int32) (p2 : Int32) (p3 : Int32) {R : Int32} (hM : f_X9_in p1 p2 p3 = some R) : CT g l yX9_in cX9_in 3 (some .boolean) 0 0 [.int p1, .int p2, .int p3] [] [] (some (.int R)) := by
  refine ct_z (by decide +kernel) (Nat.le_of_ble_eq_true rfl) ?_
  intro p e s m args below meth c Q A ls cx hP hD hA hl hfin
  obtain ⟨hx, hb, hml, hown, hts, hK⟩ := id cx
  have hl : lv_has ls 3 [(0, .int p1), (1, .int p2), (2, .int p3)] := hl
  have hS : va_S A s.heap s.heap [] := va_S.rf
  refine lv_iload_n hx hb dX9_in_0 rfl (lv_at hl 0 rfl) ?_
  refine lv_iload_n hx hb dX9_in_1 rfl (lv_at hl 1 rfl) ?_
  refine lv_icmp_lt (tgt := 14) hx hb dX9_in_2 (by decide) (fun c_2 => ?_) (fun c_2 => ?_)
  · have hM := if_t hM c_2
    refine lv_iconst (v := (nI 0)) hx hb dX9_in_14 (by decide) ?_
    have hz : bq (nI 0) = true := by decide
    obtain rfl := Option.some.inj hM
    exact hfin 15 _ _ _ dX9_in_15 hz hP hD hS
  · have hM := if_f hM c_2
    refine lv_iload_n hx hb dX9_in_5 rfl (lv_at hl 0 rfl) ?_
    refine lv_iload_n hx hb dX9_in_6 rfl (lv_at hl 2 rfl) ?_
    refine lv_icmp_gt (tgt := 14) hx hb dX9_in_7 (by decide) (fun c_7 => ?_) (fun c_7 => ?_)
    · have hM := if_t hM c_7
      refine lv_iconst (v := (nI 0)) hx hb dX9_in_14 (by decide) ?_
      have hz : bq (nI 0) = true := by decide
      obtain rfl := Option.some.inj hM
      exact hfin 15 _ _ _ dX9_in_15 hz hP hD hS
    · have hM := if_f hM c_7
      refine lv_iconst (v := (nI 1)) hx hb dX9_in_10 (by decide) ?_
      refine lv_goto (tgt := 15) hx hb dX9_in_11 (by decide) ?_
      have hz : bq (nI 1) = true := by decide
      obtain rfl := Option.some.inj hM
      exact hfin 15 _ _ _ dX9_in_15 hz hP hD hS
noncomputable def f_X9_isVertex (p1 : Int32) (t_saved : Int32) (t_letters : Int32) (t_stage : Int32) (t_size : Int32) (a_t_now : Nat → Int32) : Option (Int32) :=
  gd (inb (nI 0) 29) (bd (f_X9_in p1 (nI 0) ((a_t_now (nI 0).toNatClampNeg) - (nI 1))) (fun (q_10 : Int32) => gd (bq q_10) (some q_10)))
theorem yq_X9_isVertex : yq yX9_isVertex 1 := by unfold yq; decide +kernel
set_option maxHeartbeats 4000000 in
set_option maxRecDepth 100000 in
theorem c_X9_isVertex (g : GG) (l : Launch) (h_t : Nat) (h_t_now : Nat) (h_t_read : Nat) (h_t_past : Nat) (h_t_text : Nat) (h_t_part : Nat) (h_t_matrix : Nat) (h_t_power : Nat) (h_t_product : Nat) (h_t_poly : Nat) (h_t_old : Nat) (h_t_step : Nat) (h_t_column : Nat) (h_t_moved : Nat) (h_t_traces : Nat) (h_t_signed : Nat) (h_t_plus : Nat) (h_t_minus : Nat) (h_t_walk : Nat) (p1 : Int32) (t_saved : Int32) (t_letters : Int32) (t_stage : Int32) (t_size : Int32) (a_t_now : Nat → Int32) {R : Int32} (hM : f_X9_isVertex p1 t_saved t_letters t_stage t_size a_t_now = some R) : CT g l yX9_isVertex cX9_isVertex 2 (some .boolean) 1 22 [.ref h_t, .int p1] [ob h_t 9 [.ref h_t_now, .ref h_t_read, .ref h_t_past, .int t_saved, .ref h_t_text, .int t_letters, .int t_stage, .ref h_t_part, .int t_size, .ref h_t_matrix, .ref h_t_power, .ref h_t_product, .ref h_t_poly, .ref h_t_old, .ref h_t_step, .ref h_t_column, .ref h_t_moved, .ref h_t_traces, .ref h_t_signed, .ref h_t_plus, .ref h_t_minus, .ref h_t_walk], aI g h_t_now 29 a_t_now] [ob h_t 9 [.ref h_t_now, .ref h_t_read, .ref h_t_past, .int t_saved, .ref h_t_text, .int t_letters, .int t_stage, .ref h_t_part, .int t_size, .ref h_t_matrix, .ref h_t_power, .ref h_t_product, .ref h_t_poly, .ref h_t_old, .ref h_t_step, .ref h_t_column, .ref h_t_moved, .ref h_t_traces, .ref h_t_signed, .ref h_t_plus, .ref h_t_minus, .ref h_t_walk], aI g h_t_now 29 a_t_now] (some (.int R)) := by
  refine ct_z (by decide +kernel) (Nat.le_of_ble_eq_true rfl) ?_
  intro p e s m args below meth c Q A ls cx hP hD hA hl hfin
  obtain ⟨hx, hb, hml, hown, hts, hK⟩ := id cx
  have hl : lv_has ls 2 [(0, .ref h_t), (1, .int p1)] := hl
  have hS : va_S A s.heap s.heap [] := va_S.rf
  refine lv_iload_n hx hb dX9_isVertex_0 rfl (lv_at hl 1 rfl) ?_
  refine lv_iconst (v := (nI 0)) hx hb dX9_isVertex_1 (by decide) ?_
  refine lv_aload_n hx hb dX9_isVertex_2 rfl (lv_at hl 0 rfl) ?_
  refine w_get cx hP 0 9 0 rfl rfl (by decide) m_644 rfl rfl dX9_isVertex_3 ?_
  refine lv_iconst (v := (nI 0)) hx hb dX9_isVertex_6 (by decide) ?_
  obtain ⟨g_7, hM⟩ := gd_some hM
  refine w_iald cx hP 1 rfl g_7 dX9_isVertex_7 ?_
  refine lv_iconst (v := (nI 1)) hx hb dX9_isVertex_8 (by decide) ?_
  refine lv_isub hx hb dX9_isVertex_9 ?_
  obtain ⟨q_10, hc_10, hM⟩ := bd_some hM
  refine w_callS cx hP hD hS hA (c_X9_in g l p1 (nI 0) ((a_t_now (nI 0).toNatClampNeg) - (nI 1)) hc_10) [] rfl (by decide) rfl [ob h_t 9 [.ref h_t_now, .ref h_t_read, .ref h_t_past, .int t_saved, .ref h_t_text, .int t_letters, .int t_stage, .ref h_t_part, .int t_size, .ref h_t_matrix, .ref h_t_power, .ref h_t_product, .ref h_t_poly, .ref h_t_old, .ref h_t_step, .ref h_t_column, .ref h_t_moved, .ref h_t_traces, .ref h_t_signed, .ref h_t_plus, .ref h_t_minus, .ref h_t_walk], aI g h_t_now 29 a_t_now] rfl yq_X9_in m_715 m_716 m_51 m_717 ⟨Nat.le_of_ble_eq_true rfl, Nat.le_of_ble_eq_true rfl⟩ rfl rfl hl.1 (Nat.le_of_ble_eq_true rfl) dX9_isVertex_10 ⟨Nat.le_refl 0, Nat.le_refl 0⟩ rfl (fun H locs hP hD hS => ?_)
  obtain ⟨hz, hM⟩ := gd_some hM
  obtain rfl := Option.some.inj hM
  exact hfin 13 _ _ _ dX9_isVertex_13 hz hP hD hS
noncomputable def f_X9_isEdge (p1 : Int32) (t_saved : Int32) (t_letters : Int32) (t_stage : Int32) (t_size : Int32) (a_t_now : Nat → Int32) : Option (Int32) :=
  gd (inb (nI 1) 29) (bd (f_X9_in p1 (nI 0) ((a_t_now (nI 1).toNatClampNeg) - (nI 1))) (fun (q_10 : Int32) => gd (bq q_10) (some q_10)))
theorem yq_X9_isEdge : yq yX9_isEdge 1 := by unfold yq; decide +kernel
set_option maxHeartbeats 4000000 in
set_option maxRecDepth 100000 in
theorem c_X9_isEdge (g : GG) (l : Launch) (h_t : Nat) (h_t_now : Nat) (h_t_read : Nat) (h_t_past : Nat) (h_t_text : Nat) (h_t_part : Nat) (h_t_matrix : Nat) (h_t_power : Nat) (h_t_product : Nat) (h_t_poly : Nat) (h_t_old : Nat) (h_t_step : Nat) (h_t_column : Nat) (h_t_moved : Nat) (h_t_traces : Nat) (h_t_signed : Nat) (h_t_plus : Nat) (h_t_minus : Nat) (h_t_walk : Nat) (p1 : Int32) (t_saved : Int32) (t_letters : Int32) (t_stage : Int32) (t_size : Int32) (a_t_now : Nat → Int32) {R : Int32} (hM : f_X9_isEdge p1 t_saved t_letters t_stage t_size a_t_now = some R) : CT g l yX9_isEdge cX9_isEdge 2 (some .boolean) 1 22 [.ref h_t, .int p1] [ob h_t 9 [.ref h_t_now, .ref h_t_read, .ref h_t_past, .int t_saved, .ref h_t_text, .int t_letters, .int t_stage, .ref h_t_part, .int t_size, .ref h_t_matrix, .ref h_t_power, .ref h_t_product, .ref h_t_poly, .ref h_t_old, .ref h_t_step, .ref h_t_column, .ref h_t_moved, .ref h_t_traces, .ref h_t_signed, .ref h_t_plus, .ref h_t_minus, .ref h_t_walk], aI g h_t_now 29 a_t_now] [ob h_t 9 [.ref h_t_now, .ref h_t_read, .ref h_t_past, .int t_saved, .ref h_t_text, .int t_letters, .int t_stage, .ref h_t_part, .int t_size, .ref h_t_matrix, .ref h_t_power, .ref h_t_product, .ref h_t_poly, .ref h_t_old, .ref h_t_step, .ref h_t_column, .ref h_t_moved, .ref h_t_traces, .ref h_t_signed, .ref h_t_plus, .ref h_t_minus, .ref h_t_walk], aI g h_t_now 29 a_t_now] (some (.int R)) := by
  refine ct_z (by decide +kernel) (Nat.le_of_ble_eq_true rfl) ?_
  intro p e s m args below meth c Q A ls cx hP hD hA hl hfin
  obtain ⟨hx, hb, hml, hown, hts, hK⟩ := id cx
  have hl : lv_has ls 2 [(0, .ref h_t), (1, .int p1)] := hl
  have hS : va_S A s.heap s.heap [] := va_S.rf
  refine lv_iload_n hx hb dX9_isEdge_0 rfl (lv_at hl 1 rfl) ?_
  refine lv_iconst (v := (nI 0)) hx hb dX9_isEdge_1 (by decide) ?_
  refine lv_aload_n hx hb dX9_isEdge_2 rfl (lv_at hl 0 rfl) ?_
  refine w_get cx hP 0 9 0 rfl rfl (by decide) m_644 rfl rfl dX9_isEdge_3 ?_
  refine lv_iconst (v := (nI 1)) hx hb dX9_isEdge_6 (by decide) ?_
  obtain ⟨g_7, hM⟩ := gd_some hM
  refine w_iald cx hP 1 rfl g_7 dX9_isEdge_7 ?_
  refine lv_iconst (v := (nI 1)) hx hb dX9_isEdge_8 (by decide) ?_
  refine lv_isub hx hb dX9_isEdge_9 ?_
  obtain ⟨q_10, hc_10, hM⟩ := bd_some hM
  refine w_callS cx hP hD hS hA (c_X9_in g l p1 (nI 0) ((a_t_now (nI 1).toNatClampNeg) - (nI 1)) hc_10) [] rfl (by decide) rfl [ob h_t 9 [.ref h_t_now, .ref h_t_read, .ref h_t_past, .int t_saved, .ref h_t_text, .int t_letters, .int t_stage, .ref h_t_part, .int t_size, .ref h_t_matrix, .ref h_t_power, .ref h_t_product, .ref h_t_poly, .ref h_t_old, .ref h_t_step, .ref h_t_column, .ref h_t_moved, .ref h_t_traces, .ref h_t_signed, .ref h_t_plus, .ref h_t_minus, .ref h_t_walk], aI g h_t_now 29 a_t_now] rfl yq_X9_in m_715 m_716 m_51 m_717 ⟨Nat.le_of_ble_eq_true rfl, Nat.le_of_ble_eq_true rfl⟩ rfl rfl hl.1 (Nat.le_of_ble_eq_true rfl) dX9_isEdge_10 ⟨Nat.le_refl 0, Nat.le_refl 0⟩ rfl (fun H locs hP hD hS => ?_)
  obtain ⟨hz, hM⟩ := gd_some hM
  obtain rfl := Option.some.inj hM
  exact hfin 13 _ _ _ dX9_isEdge_13 hz hP hD hS
noncomputable def f_X9_isDirected (p1 : Int32) (t_saved : Int32) (t_letters : Int32) (t_stage : Int32) (t_size : Int32) (a_t_now : Nat → Int32) : Option (Int32) :=
  gd (inb (nI 1) 29) (bd (f_X9_in p1 (nI 0) (((nI 2) * (a_t_now (nI 1).toNatClampNeg)) - (nI 1))) (fun (q_12 : Int32) => gd (bq q_12) (some q_12)))
theorem yq_X9_isDirected : yq yX9_isDirected 1 := by unfold yq; decide +kernel
set_option maxHeartbeats 4000000 in
set_option maxRecDepth 100000 in
theorem c_X9_isDirected (g : GG) (l : Launch) (h_t : Nat) (h_t_now : Nat) (h_t_read : Nat) (h_t_past : Nat) (h_t_text : Nat) (h_t_part : Nat) (h_t_matrix : Nat) (h_t_power : Nat) (h_t_product : Nat) (h_t_poly : Nat) (h_t_old : Nat) (h_t_step : Nat) (h_t_column : Nat) (h_t_moved : Nat) (h_t_traces : Nat) (h_t_signed : Nat) (h_t_plus : Nat) (h_t_minus : Nat) (h_t_walk : Nat) (p1 : Int32) (t_saved : Int32) (t_letters : Int32) (t_stage : Int32) (t_size : Int32) (a_t_now : Nat → Int32) {R : Int32} (hM : f_X9_isDirected p1 t_saved t_letters t_stage t_size a_t_now = some R) : CT g l yX9_isDirected cX9_isDirected 2 (some .boolean) 1 22 [.ref h_t, .int p1] [ob h_t 9 [.ref h_t_now, .ref h_t_read, .ref h_t_past, .int t_saved, .ref h_t_text, .int t_letters, .int t_stage, .ref h_t_part, .int t_size, .ref h_t_matrix, .ref h_t_power, .ref h_t_product, .ref h_t_poly, .ref h_t_old, .ref h_t_step, .ref h_t_column, .ref h_t_moved, .ref h_t_traces, .ref h_t_signed, .ref h_t_plus, .ref h_t_minus, .ref h_t_walk], aI g h_t_now 29 a_t_now] [ob h_t 9 [.ref h_t_now, .ref h_t_read, .ref h_t_past, .int t_saved, .ref h_t_text, .int t_letters, .int t_stage, .ref h_t_part, .int t_size, .ref h_t_matrix, .ref h_t_power, .ref h_t_product, .ref h_t_poly, .ref h_t_old, .ref h_t_step, .ref h_t_column, .ref h_t_moved, .ref h_t_traces, .ref h_t_signed, .ref h_t_plus, .ref h_t_minus, .ref h_t_walk], aI g h_t_now 29 a_t_now] (some (.int R)) := by
  refine ct_z (by decide +kernel) (Nat.le_of_ble_eq_true rfl) ?_
  intro p e s m args below meth c Q A ls cx hP hD hA hl hfin
  obtain ⟨hx, hb, hml, hown, hts, hK⟩ := id cx
  have hl : lv_has ls 2 [(0, .ref h_t), (1, .int p1)] := hl
  have hS : va_S A s.heap s.heap [] := va_S.rf
  refine lv_iload_n hx hb dX9_isDirected_0 rfl (lv_at hl 1 rfl) ?_
  refine lv_iconst (v := (nI 0)) hx hb dX9_isDirected_1 (by decide) ?_
  refine lv_iconst (v := (nI 2)) hx hb dX9_isDirected_2 (by decide) ?_
  refine lv_aload_n hx hb dX9_isDirected_3 rfl (lv_at hl 0 rfl) ?_
  refine w_get cx hP 0 9 0 rfl rfl (by decide) m_644 rfl rfl dX9_isDirected_4 ?_
  refine lv_iconst (v := (nI 1)) hx hb dX9_isDirected_7 (by decide) ?_
  obtain ⟨g_8, hM⟩ := gd_some hM
  refine w_iald cx hP 1 rfl g_8 dX9_isDirected_8 ?_
  refine lv_imul hx hb dX9_isDirected_9 ?_
  refine lv_iconst (v := (nI 1)) hx hb dX9_isDirected_10 (by decide) ?_
  refine lv_isub hx hb dX9_isDirected_11 ?_
  obtain ⟨q_12, hc_12, hM⟩ := bd_some hM
  refine w_callS cx hP hD hS hA (c_X9_in g l p1 (nI 0) (((nI 2) * (a_t_now (nI 1).toNatClampNeg)) - (nI 1)) hc_12) [] rfl (by decide) rfl [ob h_t 9 [.ref h_t_now, .ref h_t_read, .ref h_t_past, .int t_saved, .ref h_t_text, .int t_letters, .int t_stage, .ref h_t_part, .int t_size, .ref h_t_matrix, .ref h_t_power, .ref h_t_product, .ref h_t_poly, .ref h_t_old, .ref h_t_step, .ref h_t_column, .ref h_t_moved, .ref h_t_traces, .ref h_t_signed, .ref h_t_plus, .ref h_t_minus, .ref h_t_walk], aI g h_t_now 29 a_t_now] rfl yq_X9_in m_715 m_716 m_51 m_717 ⟨Nat.le_of_ble_eq_true rfl, Nat.le_of_ble_eq_true rfl⟩ rfl rfl hl.1 (Nat.le_of_ble_eq_true rfl) dX9_isDirected_12 ⟨Nat.le_refl 0, Nat.le_refl 0⟩ rfl (fun H locs hP hD hS => ?_)
  obtain ⟨hz, hM⟩ := gd_some hM
  obtain rfl := Option.some.inj hM
  exact hfin 15 _ _ _ dX9_isDirected_15 hz hP hD hS
noncomputable def b_X9_save_11 : Int32 × (Nat → Int32) → Option ((Int32 × (Nat → Int32)) ⊕ ((Nat → Int32))) := fun z_11 =>
  if (nI 203) ≤ z_11.1 then some (.inr z_11.2) else gd (inb (z_11.1 + (nI 29)) 232) (gd (inb z_11.1 232) (some (.inl (z_11.1 + (nI 1), upd z_11.2 z_11.1.toNatClampNeg (z_11.2 (z_11.1 + (nI 29)).toNatClampNeg)))))
noncomputable def b_X9_save_51 (a_t_now : Nat → Int32) (j_6 : Int32 × (Nat → Int32)) : Int32 × (Nat → Int32) → Option ((Int32 × (Nat → Int32)) ⊕ ((Nat → Int32))) := fun z_51 =>
  if (nI 29) ≤ z_51.1 then some (.inr z_51.2) else gd (inb z_51.1 29) (gd (inb (((nI 29) * j_6.1) + z_51.1) 232) (some (.inl (z_51.1 + (nI 1), upd z_51.2 (((nI 29) * j_6.1) + z_51.1).toNatClampNeg (a_t_now z_51.1.toNatClampNeg)))))
noncomputable def f_X9_save (t_saved : Int32) (t_letters : Int32) (t_stage : Int32) (t_size : Int32) (a_t_now : Nat → Int32) (a_t_past : Nat → Int32) : Option (Int32 × (Nat → Int32)) :=
  bd (if t_saved = (nI 8) then bd (wh b_X9_save_11 ((nI 0), a_t_past)) (fun (r_11 : Nat → Int32) => some ((t_saved - (nI 1)), r_11)) else some (t_saved, a_t_past)) (fun (j_6 : Int32 × (Nat → Int32)) => bd (wh (b_X9_save_51 a_t_now j_6) ((nI 0), j_6.2)) (fun (r_51 : Nat → Int32) => some ((j_6.1 + (nI 1)), r_51)))
theorem yq_X9_save : yq yX9_save 0 := by unfold yq; decide +kernel
set_option maxHeartbeats 4000000 in
set_option maxRecDepth 100000 in
theorem c_X9_save (g : GG) (l : Launch) (h_t : Nat) (h_t_now : Nat) (h_t_read : Nat) (h_t_past : Nat) (h_t_text : Nat) (h_t_part : Nat) (h_t_matrix : Nat) (h_t_power : Nat) (h_t_product : Nat) (h_t_poly : Nat) (h_t_old : Nat) (h_t_step : Nat) (h_t_column : Nat) (h_t_moved : Nat) (h_t_traces : Nat) (h_t_signed : Nat) (h_t_plus : Nat) (h_t_minus : Nat) (h_t_walk : Nat) (t_saved : Int32) (t_letters : Int32) (t_stage : Int32) (t_size : Int32) (a_t_now : Nat → Int32) (a_t_past : Nat → Int32) {R : Int32 × (Nat → Int32)} (hM : f_X9_save t_saved t_letters t_stage t_size a_t_now a_t_past = some R) : CT g l yX9_save cX9_save 2 none 0 0 [.ref h_t] [ob h_t 9 [.ref h_t_now, .ref h_t_read, .ref h_t_past, .int t_saved, .ref h_t_text, .int t_letters, .int t_stage, .ref h_t_part, .int t_size, .ref h_t_matrix, .ref h_t_power, .ref h_t_product, .ref h_t_poly, .ref h_t_old, .ref h_t_step, .ref h_t_column, .ref h_t_moved, .ref h_t_traces, .ref h_t_signed, .ref h_t_plus, .ref h_t_minus, .ref h_t_walk], aI g h_t_now 29 a_t_now, aI g h_t_past 232 a_t_past] [ob h_t 9 [.ref h_t_now, .ref h_t_read, .ref h_t_past, .int R.1, .ref h_t_text, .int t_letters, .int t_stage, .ref h_t_part, .int t_size, .ref h_t_matrix, .ref h_t_power, .ref h_t_product, .ref h_t_poly, .ref h_t_old, .ref h_t_step, .ref h_t_column, .ref h_t_moved, .ref h_t_traces, .ref h_t_signed, .ref h_t_plus, .ref h_t_minus, .ref h_t_walk], aI g h_t_now 29 a_t_now, aI g h_t_past 232 R.2] none := by
  refine ct_v (by decide +kernel) (Nat.le_of_ble_eq_true rfl) ?_
  intro p e s m args below meth c Q A ls cx hP hD hA hl hfin
  obtain ⟨hx, hb, hml, hown, hts, hK⟩ := id cx
  have hl : lv_has ls 2 [(0, .ref h_t)] := hl
  have hS : va_S A s.heap s.heap [] := va_S.rf
  refine lv_aload_n hx hb dX9_save_0 rfl (lv_at hl 0 rfl) ?_
  refine w_get cx hP 0 9 3 rfl rfl (by decide) m_647 rfl rfl dX9_save_1 ?_
  refine lv_bipush (v := (nI 8)) hx hb dX9_save_4 (by decide) ?_
  obtain ⟨j_6, hB, hM⟩ := bd_some hM
  have hJ_6 : ∀ (H : Heap) (locs : List Loc) (ls : Array Slot), va_P (gD g) vwCl [ob h_t 9 [.ref h_t_now, .ref h_t_read, .ref h_t_past, .int j_6.1, .ref h_t_text, .int t_letters, .int t_stage, .ref h_t_part, .int t_size, .ref h_t_matrix, .ref h_t_power, .ref h_t_product, .ref h_t_poly, .ref h_t_old, .ref h_t_step, .ref h_t_column, .ref h_t_moved, .ref h_t_traces, .ref h_t_signed, .ref h_t_plus, .ref h_t_minus, .ref h_t_walk], aI g h_t_now 29 a_t_now, aI g h_t_past 232 j_6.2] H → va_D A [ob h_t 9 [.ref h_t_now, .ref h_t_read, .ref h_t_past, .int j_6.1, .ref h_t_text, .int t_letters, .int t_stage, .ref h_t_part, .int t_size, .ref h_t_matrix, .ref h_t_power, .ref h_t_product, .ref h_t_poly, .ref h_t_old, .ref h_t_step, .ref h_t_column, .ref h_t_moved, .ref h_t_traces, .ref h_t_signed, .ref h_t_plus, .ref h_t_minus, .ref h_t_walk], aI g h_t_now 29 a_t_now, aI g h_t_past 232 j_6.2] → va_S A s.heap H locs → lv_has ls 2 [(0, .ref h_t)] → W p l e (rmv 0 0) s m args below meth c H locs 0 0 Q (F0 m 49 ls []) := by
    intro H locs ls hP hD hS hl
    refine lv_iconst (v := (nI 0)) hx hb dX9_save_49 (by decide) ?_
    refine lv_istore_n (lv' := [(1, .int (nI 0)), (0, .ref h_t)]) hx hb dX9_save_50 rfl hl (by decide) rfl (fun ls hl => ?_)
    obtain ⟨r_51, hw, hM⟩ := bd_some hM
    obtain ⟨n, hn⟩ := wh_some hw
    clear hw
    have hE_51_0 : ∀ (H : Heap) (locs : List Loc) (ls : Array Slot), va_P (gD g) vwCl [ob h_t 9 [.ref h_t_now, .ref h_t_read, .ref h_t_past, .int j_6.1, .ref h_t_text, .int t_letters, .int t_stage, .ref h_t_part, .int t_size, .ref h_t_matrix, .ref h_t_power, .ref h_t_product, .ref h_t_poly, .ref h_t_old, .ref h_t_step, .ref h_t_column, .ref h_t_moved, .ref h_t_traces, .ref h_t_signed, .ref h_t_plus, .ref h_t_minus, .ref h_t_walk], aI g h_t_now 29 a_t_now, aI g h_t_past 232 r_51] H → va_D A [ob h_t 9 [.ref h_t_now, .ref h_t_read, .ref h_t_past, .int j_6.1, .ref h_t_text, .int t_letters, .int t_stage, .ref h_t_part, .int t_size, .ref h_t_matrix, .ref h_t_power, .ref h_t_product, .ref h_t_poly, .ref h_t_old, .ref h_t_step, .ref h_t_column, .ref h_t_moved, .ref h_t_traces, .ref h_t_signed, .ref h_t_plus, .ref h_t_minus, .ref h_t_walk], aI g h_t_now 29 a_t_now, aI g h_t_past 232 r_51] → va_S A s.heap H locs → lv_has ls 2 [(0, .ref h_t)] → W p l e (rmv 0 0) s m args below meth c H locs 0 0 Q (F0 m 83 ls []) := by
      intro H locs ls hP hD hS hl
      refine lv_aload_n hx hb dX9_save_83 rfl (lv_at hl 0 rfl) ?_
      refine lv_dup hx hb dX9_save_84 rfl ?_
      refine w_get cx hP 0 9 3 rfl rfl (by decide) m_647 rfl rfl dX9_save_85 ?_
      refine lv_iconst (v := (nI 1)) hx hb dX9_save_88 (by decide) ?_
      refine lv_iadd hx hb dX9_save_89 ?_
      refine w_put cx hP hD hS 0 9 3 rfl rfl (by decide) m_647 rfl rfl rfl (Nat.le_of_ble_eq_true rfl) dX9_save_90 [ob h_t 9 [.ref h_t_now, .ref h_t_read, .ref h_t_past, .int (j_6.1 + (nI 1)), .ref h_t_text, .int t_letters, .int t_stage, .ref h_t_part, .int t_size, .ref h_t_matrix, .ref h_t_power, .ref h_t_product, .ref h_t_poly, .ref h_t_old, .ref h_t_step, .ref h_t_column, .ref h_t_moved, .ref h_t_traces, .ref h_t_signed, .ref h_t_plus, .ref h_t_minus, .ref h_t_walk], aI g h_t_now 29 a_t_now, aI g h_t_past 232 r_51] rfl (fun H locs hP hD hS => ?_)
      obtain rfl := Option.some.inj hM
      exact hfin 93 _ _ _ dX9_save_93 hP hD hS
    clear hM
    have hL_51 : ∀ (n : Nat) (z_51 : Int32 × (Nat → Int32)), it (b_X9_save_51 a_t_now j_6) n z_51 = some r_51 → ∀ (H : Heap) (locs : List Loc) (ls : Array Slot), va_P (gD g) vwCl [ob h_t 9 [.ref h_t_now, .ref h_t_read, .ref h_t_past, .int j_6.1, .ref h_t_text, .int t_letters, .int t_stage, .ref h_t_part, .int t_size, .ref h_t_matrix, .ref h_t_power, .ref h_t_product, .ref h_t_poly, .ref h_t_old, .ref h_t_step, .ref h_t_column, .ref h_t_moved, .ref h_t_traces, .ref h_t_signed, .ref h_t_plus, .ref h_t_minus, .ref h_t_walk], aI g h_t_now 29 a_t_now, aI g h_t_past 232 z_51.2] H → va_D A [ob h_t 9 [.ref h_t_now, .ref h_t_read, .ref h_t_past, .int j_6.1, .ref h_t_text, .int t_letters, .int t_stage, .ref h_t_part, .int t_size, .ref h_t_matrix, .ref h_t_power, .ref h_t_product, .ref h_t_poly, .ref h_t_old, .ref h_t_step, .ref h_t_column, .ref h_t_moved, .ref h_t_traces, .ref h_t_signed, .ref h_t_plus, .ref h_t_minus, .ref h_t_walk], aI g h_t_now 29 a_t_now, aI g h_t_past 232 z_51.2] → va_S A s.heap H locs → lv_has ls 2 [(1, .int z_51.1), (0, .ref h_t)] → W p l e (rmv 0 0) s m args below meth c H locs 0 0 Q (F0 m 51 ls []) := by
      intro n
      induction n with
      | zero => intro z_51 hn; exact (it_zero hn).elim
      | succ n ih =>
        intro z_51 hn H locs ls hP hD hS hl
        obtain ⟨x, hM, hX⟩ := it_succ hn
        clear hn
        refine lv_iload_n hx hb dX9_save_51 rfl (lv_at hl 0 rfl) ?_
        refine lv_bipush (v := (nI 29)) hx hb dX9_save_52 (by decide) ?_
        refine lv_icmp_ge (tgt := 83) hx hb dX9_save_54 (by decide) (fun c_54 => ?_) (fun c_54 => ?_)
        · have hM := if_t hM c_54
          obtain rfl := Option.some.inj hM
          obtain rfl : _ = r_51 := hX
          exact hE_51_0 _ _ _ hP hD hS (lv_sub hl [1] rfl)
        · have hM := if_f hM c_54
          refine lv_aload_n hx hb dX9_save_57 rfl (lv_at hl 1 rfl) ?_
          refine w_get cx hP 0 9 2 rfl rfl (by decide) m_646 rfl rfl dX9_save_58 ?_
          refine lv_bipush (v := (nI 29)) hx hb dX9_save_61 (by decide) ?_
          refine lv_aload_n hx hb dX9_save_63 rfl (lv_at hl 1 rfl) ?_
          refine w_get cx hP 0 9 3 rfl rfl (by decide) m_647 rfl rfl dX9_save_64 ?_
          refine lv_imul hx hb dX9_save_67 ?_
          refine lv_iload_n hx hb dX9_save_68 rfl (lv_at hl 0 rfl) ?_
          refine lv_iadd hx hb dX9_save_69 ?_
          refine lv_aload_n hx hb dX9_save_70 rfl (lv_at hl 1 rfl) ?_
          refine w_get cx hP 0 9 0 rfl rfl (by decide) m_644 rfl rfl dX9_save_71 ?_
          refine lv_iload_n hx hb dX9_save_74 rfl (lv_at hl 0 rfl) ?_
          obtain ⟨g_75, hM⟩ := gd_some hM
          refine w_iald cx hP 1 rfl g_75 dX9_save_75 ?_
          obtain ⟨g_76, hM⟩ := gd_some hM
          refine w_iast cx hP hD hS 2 rfl g_76 dX9_save_76 [ob h_t 9 [.ref h_t_now, .ref h_t_read, .ref h_t_past, .int j_6.1, .ref h_t_text, .int t_letters, .int t_stage, .ref h_t_part, .int t_size, .ref h_t_matrix, .ref h_t_power, .ref h_t_product, .ref h_t_poly, .ref h_t_old, .ref h_t_step, .ref h_t_column, .ref h_t_moved, .ref h_t_traces, .ref h_t_signed, .ref h_t_plus, .ref h_t_minus, .ref h_t_walk], aI g h_t_now 29 a_t_now, aI g h_t_past 232 (upd z_51.2 (((nI 29) * j_6.1) + z_51.1).toNatClampNeg (a_t_now z_51.1.toNatClampNeg))] rfl (fun H locs hP hD hS => ?_)
          refine lv_iinc (v := z_51.1 + (nI 1)) (lv' := [(1, .int (z_51.1 + (nI 1))), (0, .ref h_t)]) hx hb dX9_save_77 hl (k := 0) rfl (congrArg (fun q => z_51.1 + q) (show Int32.ofInt (1) = (nI 1) by decide)) (by decide) rfl (fun ls hl => ?_)
          refine lv_goto (tgt := 51) hx hb dX9_save_80 (by decide) ?_
          obtain rfl := Option.some.inj hM
          exact ih _ hX _ _ _ hP hD hS (lv_sub hl [0, 1] rfl)
    exact hL_51 n _ hn _ _ _ hP hD hS (lv_sub hl [0, 1] rfl)
  clear hM
  have hM := hB
  clear hB
  refine lv_icmp_ne (tgt := 49) hx hb dX9_save_6 (by decide) (fun c_6 => ?_) (fun c_6 => ?_)
  · have hM := if_f hM c_6
    obtain rfl := Option.some.inj hM
    exact hJ_6 _ _ _ hP hD hS (lv_sub hl [0] rfl)
  · have hM := if_t hM c_6
    refine lv_iconst (v := (nI 0)) hx hb dX9_save_9 (by decide) ?_
    refine lv_istore_n (lv' := [(1, .int (nI 0)), (0, .ref h_t)]) hx hb dX9_save_10 rfl hl (by decide) rfl (fun ls hl => ?_)
    obtain ⟨r_11, hw, hM⟩ := bd_some hM
    obtain ⟨n, hn⟩ := wh_some hw
    clear hw
    have hE_11_0 : ∀ (H : Heap) (locs : List Loc) (ls : Array Slot), va_P (gD g) vwCl [ob h_t 9 [.ref h_t_now, .ref h_t_read, .ref h_t_past, .int t_saved, .ref h_t_text, .int t_letters, .int t_stage, .ref h_t_part, .int t_size, .ref h_t_matrix, .ref h_t_power, .ref h_t_product, .ref h_t_poly, .ref h_t_old, .ref h_t_step, .ref h_t_column, .ref h_t_moved, .ref h_t_traces, .ref h_t_signed, .ref h_t_plus, .ref h_t_minus, .ref h_t_walk], aI g h_t_now 29 a_t_now, aI g h_t_past 232 r_11] H → va_D A [ob h_t 9 [.ref h_t_now, .ref h_t_read, .ref h_t_past, .int t_saved, .ref h_t_text, .int t_letters, .int t_stage, .ref h_t_part, .int t_size, .ref h_t_matrix, .ref h_t_power, .ref h_t_product, .ref h_t_poly, .ref h_t_old, .ref h_t_step, .ref h_t_column, .ref h_t_moved, .ref h_t_traces, .ref h_t_signed, .ref h_t_plus, .ref h_t_minus, .ref h_t_walk], aI g h_t_now 29 a_t_now, aI g h_t_past 232 r_11] → va_S A s.heap H locs → lv_has ls 2 [(0, .ref h_t)] → W p l e (rmv 0 0) s m args below meth c H locs 0 0 Q (F0 m 39 ls []) := by
      intro H locs ls hP hD hS hl
      refine lv_aload_n hx hb dX9_save_39 rfl (lv_at hl 0 rfl) ?_
      refine lv_dup hx hb dX9_save_40 rfl ?_
      refine w_get cx hP 0 9 3 rfl rfl (by decide) m_647 rfl rfl dX9_save_41 ?_
      refine lv_iconst (v := (nI 1)) hx hb dX9_save_44 (by decide) ?_
      refine lv_isub hx hb dX9_save_45 ?_
      refine w_put cx hP hD hS 0 9 3 rfl rfl (by decide) m_647 rfl rfl rfl (Nat.le_of_ble_eq_true rfl) dX9_save_46 [ob h_t 9 [.ref h_t_now, .ref h_t_read, .ref h_t_past, .int (t_saved - (nI 1)), .ref h_t_text, .int t_letters, .int t_stage, .ref h_t_part, .int t_size, .ref h_t_matrix, .ref h_t_power, .ref h_t_product, .ref h_t_poly, .ref h_t_old, .ref h_t_step, .ref h_t_column, .ref h_t_moved, .ref h_t_traces, .ref h_t_signed, .ref h_t_plus, .ref h_t_minus, .ref h_t_walk], aI g h_t_now 29 a_t_now, aI g h_t_past 232 r_11] rfl (fun H locs hP hD hS => ?_)
      obtain rfl := Option.some.inj hM
      exact hJ_6 _ _ _ hP hD hS (lv_sub hl [0] rfl)
    clear hM
    have hL_11 : ∀ (n : Nat) (z_11 : Int32 × (Nat → Int32)), it b_X9_save_11 n z_11 = some r_11 → ∀ (H : Heap) (locs : List Loc) (ls : Array Slot), va_P (gD g) vwCl [ob h_t 9 [.ref h_t_now, .ref h_t_read, .ref h_t_past, .int t_saved, .ref h_t_text, .int t_letters, .int t_stage, .ref h_t_part, .int t_size, .ref h_t_matrix, .ref h_t_power, .ref h_t_product, .ref h_t_poly, .ref h_t_old, .ref h_t_step, .ref h_t_column, .ref h_t_moved, .ref h_t_traces, .ref h_t_signed, .ref h_t_plus, .ref h_t_minus, .ref h_t_walk], aI g h_t_now 29 a_t_now, aI g h_t_past 232 z_11.2] H → va_D A [ob h_t 9 [.ref h_t_now, .ref h_t_read, .ref h_t_past, .int t_saved, .ref h_t_text, .int t_letters, .int t_stage, .ref h_t_part, .int t_size, .ref h_t_matrix, .ref h_t_power, .ref h_t_product, .ref h_t_poly, .ref h_t_old, .ref h_t_step, .ref h_t_column, .ref h_t_moved, .ref h_t_traces, .ref h_t_signed, .ref h_t_plus, .ref h_t_minus, .ref h_t_walk], aI g h_t_now 29 a_t_now, aI g h_t_past 232 z_11.2] → va_S A s.heap H locs → lv_has ls 2 [(1, .int z_11.1), (0, .ref h_t)] → W p l e (rmv 0 0) s m args below meth c H locs 0 0 Q (F0 m 11 ls []) := by
      intro n
      induction n with
      | zero => intro z_11 hn; exact (it_zero hn).elim
      | succ n ih =>
        intro z_11 hn H locs ls hP hD hS hl
        obtain ⟨x, hM, hX⟩ := it_succ hn
        clear hn
        refine lv_iload_n hx hb dX9_save_11 rfl (lv_at hl 0 rfl) ?_
        refine lv_sipush (v := (nI 203)) hx hb dX9_save_12 (by decide) ?_
        refine lv_icmp_ge (tgt := 39) hx hb dX9_save_15 (by decide) (fun c_15 => ?_) (fun c_15 => ?_)
        · have hM := if_t hM c_15
          obtain rfl := Option.some.inj hM
          obtain rfl : _ = r_11 := hX
          exact hE_11_0 _ _ _ hP hD hS (lv_sub hl [1] rfl)
        · have hM := if_f hM c_15
          refine lv_aload_n hx hb dX9_save_18 rfl (lv_at hl 1 rfl) ?_
          refine w_get cx hP 0 9 2 rfl rfl (by decide) m_646 rfl rfl dX9_save_19 ?_
          refine lv_iload_n hx hb dX9_save_22 rfl (lv_at hl 0 rfl) ?_
          refine lv_aload_n hx hb dX9_save_23 rfl (lv_at hl 1 rfl) ?_
          refine w_get cx hP 0 9 2 rfl rfl (by decide) m_646 rfl rfl dX9_save_24 ?_
          refine lv_iload_n hx hb dX9_save_27 rfl (lv_at hl 0 rfl) ?_
          refine lv_bipush (v := (nI 29)) hx hb dX9_save_28 (by decide) ?_
          refine lv_iadd hx hb dX9_save_30 ?_
          obtain ⟨g_31, hM⟩ := gd_some hM
          refine w_iald cx hP 2 rfl g_31 dX9_save_31 ?_
          obtain ⟨g_32, hM⟩ := gd_some hM
          refine w_iast cx hP hD hS 2 rfl g_32 dX9_save_32 [ob h_t 9 [.ref h_t_now, .ref h_t_read, .ref h_t_past, .int t_saved, .ref h_t_text, .int t_letters, .int t_stage, .ref h_t_part, .int t_size, .ref h_t_matrix, .ref h_t_power, .ref h_t_product, .ref h_t_poly, .ref h_t_old, .ref h_t_step, .ref h_t_column, .ref h_t_moved, .ref h_t_traces, .ref h_t_signed, .ref h_t_plus, .ref h_t_minus, .ref h_t_walk], aI g h_t_now 29 a_t_now, aI g h_t_past 232 (upd z_11.2 z_11.1.toNatClampNeg (z_11.2 (z_11.1 + (nI 29)).toNatClampNeg))] rfl (fun H locs hP hD hS => ?_)
          refine lv_iinc (v := z_11.1 + (nI 1)) (lv' := [(1, .int (z_11.1 + (nI 1))), (0, .ref h_t)]) hx hb dX9_save_33 hl (k := 0) rfl (congrArg (fun q => z_11.1 + q) (show Int32.ofInt (1) = (nI 1) by decide)) (by decide) rfl (fun ls hl => ?_)
          refine lv_goto (tgt := 11) hx hb dX9_save_36 (by decide) ?_
          obtain rfl := Option.some.inj hM
          exact ih _ hX _ _ _ hP hD hS (lv_sub hl [0, 1] rfl)
    exact hL_11 n _ hn _ _ _ hP hD hS (lv_sub hl [0, 1] rfl)
noncomputable def f_X9_configure (p1 : Int32) (t_saved : Int32) (t_letters : Int32) (t_stage : Int32) (t_size : Int32) (a_t_now : Nat → Int32) (a_t_past : Nat → Int32) : Option (Int32 × Int32 × (Nat → Int32) × (Nat → Int32)) :=
  bd (f_X9_in p1 (nI 1) (nI 6)) (fun (q_4 : Int32) => if q_4 = 0 then some ((nI 4294967295), t_saved, a_t_now, a_t_past) else bd (f_X9_save t_saved t_letters t_stage t_size a_t_now a_t_past) (fun (q_13 : Int32 × (Nat → Int32)) => gd (inb (nI 0) 29) (nm (a_t_now (nI 0).toNatClampNeg) (fun (x_22 : Int32) => gd (inb (nI 0) 29) (gd (inb (nI 1) 29) (some (x_22, q_13.1, upd (upd a_t_now (nI 0).toNatClampNeg p1) (nI 1).toNatClampNeg (nI 0), q_13.2)))))))
theorem yq_X9_configure : yq yX9_configure 1 := by unfold yq; decide +kernel
set_option maxHeartbeats 4000000 in
set_option maxRecDepth 100000 in
theorem c_X9_configure (g : GG) (l : Launch) (h_t : Nat) (h_t_now : Nat) (h_t_read : Nat) (h_t_past : Nat) (h_t_text : Nat) (h_t_part : Nat) (h_t_matrix : Nat) (h_t_power : Nat) (h_t_product : Nat) (h_t_poly : Nat) (h_t_old : Nat) (h_t_step : Nat) (h_t_column : Nat) (h_t_moved : Nat) (h_t_traces : Nat) (h_t_signed : Nat) (h_t_plus : Nat) (h_t_minus : Nat) (h_t_walk : Nat) (p1 : Int32) (t_saved : Int32) (t_letters : Int32) (t_stage : Int32) (t_size : Int32) (a_t_now : Nat → Int32) (a_t_past : Nat → Int32) {R : Int32 × Int32 × (Nat → Int32) × (Nat → Int32)} (hM : f_X9_configure p1 t_saved t_letters t_stage t_size a_t_now a_t_past = some R) : CT g l yX9_configure cX9_configure 3 (some .int) 1 22 [.ref h_t, .int p1] [ob h_t 9 [.ref h_t_now, .ref h_t_read, .ref h_t_past, .int t_saved, .ref h_t_text, .int t_letters, .int t_stage, .ref h_t_part, .int t_size, .ref h_t_matrix, .ref h_t_power, .ref h_t_product, .ref h_t_poly, .ref h_t_old, .ref h_t_step, .ref h_t_column, .ref h_t_moved, .ref h_t_traces, .ref h_t_signed, .ref h_t_plus, .ref h_t_minus, .ref h_t_walk], aI g h_t_now 29 a_t_now, aI g h_t_past 232 a_t_past] [ob h_t 9 [.ref h_t_now, .ref h_t_read, .ref h_t_past, .int R.2.1, .ref h_t_text, .int t_letters, .int t_stage, .ref h_t_part, .int t_size, .ref h_t_matrix, .ref h_t_power, .ref h_t_product, .ref h_t_poly, .ref h_t_old, .ref h_t_step, .ref h_t_column, .ref h_t_moved, .ref h_t_traces, .ref h_t_signed, .ref h_t_plus, .ref h_t_minus, .ref h_t_walk], aI g h_t_now 29 R.2.2.1, aI g h_t_past 232 R.2.2.2] (some (.int R.1)) := by
  refine ct_i (by decide +kernel) (Nat.le_of_ble_eq_true rfl) ?_
  intro p e s m args below meth c Q A ls cx hP hD hA hl hfin
  obtain ⟨hx, hb, hml, hown, hts, hK⟩ := id cx
  have hl : lv_has ls 3 [(0, .ref h_t), (1, .int p1)] := hl
  have hS : va_S A s.heap s.heap [] := va_S.rf
  refine lv_iload_n hx hb dX9_configure_0 rfl (lv_at hl 1 rfl) ?_
  refine lv_iconst (v := (nI 1)) hx hb dX9_configure_1 (by decide) ?_
  refine lv_bipush (v := (nI 6)) hx hb dX9_configure_2 (by decide) ?_
  obtain ⟨q_4, hc_4, hM⟩ := bd_some hM
  refine w_callS cx hP hD hS hA (c_X9_in g l p1 (nI 1) (nI 6) hc_4) [] rfl (by decide) rfl [ob h_t 9 [.ref h_t_now, .ref h_t_read, .ref h_t_past, .int t_saved, .ref h_t_text, .int t_letters, .int t_stage, .ref h_t_part, .int t_size, .ref h_t_matrix, .ref h_t_power, .ref h_t_product, .ref h_t_poly, .ref h_t_old, .ref h_t_step, .ref h_t_column, .ref h_t_moved, .ref h_t_traces, .ref h_t_signed, .ref h_t_plus, .ref h_t_minus, .ref h_t_walk], aI g h_t_now 29 a_t_now, aI g h_t_past 232 a_t_past] rfl yq_X9_in m_715 m_716 m_51 m_717 ⟨Nat.le_of_ble_eq_true rfl, Nat.le_of_ble_eq_true rfl⟩ rfl rfl hl.1 (Nat.le_of_ble_eq_true rfl) dX9_configure_4 ⟨Nat.le_refl 0, Nat.le_refl 0⟩ rfl (fun H locs hP hD hS => ?_)
  refine lv_if_ne (tgt := 12) hx hb dX9_configure_7 (by decide) (fun c_7 => ?_) (fun c_7 => ?_)
  · have hM := if_f hM c_7
    refine lv_aload_n hx hb dX9_configure_12 rfl (lv_at hl 0 rfl) ?_
    obtain ⟨q_13, hc_13, hM⟩ := bd_some hM
    refine w_callV cx hP hD hS hA (c_X9_save g l h_t h_t_now h_t_read h_t_past h_t_text h_t_part h_t_matrix h_t_power h_t_product h_t_poly h_t_old h_t_step h_t_column h_t_moved h_t_traces h_t_signed h_t_plus h_t_minus h_t_walk t_saved t_letters t_stage t_size a_t_now a_t_past hc_13) [0, 1, 2] rfl (by decide) rfl [ob h_t 9 [.ref h_t_now, .ref h_t_read, .ref h_t_past, .int q_13.1, .ref h_t_text, .int t_letters, .int t_stage, .ref h_t_part, .int t_size, .ref h_t_matrix, .ref h_t_power, .ref h_t_product, .ref h_t_poly, .ref h_t_old, .ref h_t_step, .ref h_t_column, .ref h_t_moved, .ref h_t_traces, .ref h_t_signed, .ref h_t_plus, .ref h_t_minus, .ref h_t_walk], aI g h_t_now 29 a_t_now, aI g h_t_past 232 q_13.2] rfl 0 9 rfl rfl yq_X9_save rfl m_718 m_720 m_16 m_51 m_721 ⟨Nat.le_of_ble_eq_true rfl, Nat.le_of_ble_eq_true rfl⟩ rfl rfl hl.1 (Nat.le_of_ble_eq_true rfl) dX9_configure_13 ⟨Nat.le_refl 0, Nat.le_refl 0⟩ rfl (fun H locs hP hD hS => ?_)
    refine lv_aload_n hx hb dX9_configure_16 rfl (lv_at hl 0 rfl) ?_
    refine w_get cx hP 0 9 0 rfl rfl (by decide) m_644 rfl rfl dX9_configure_17 ?_
    refine lv_iconst (v := (nI 0)) hx hb dX9_configure_20 (by decide) ?_
    obtain ⟨g_21, hM⟩ := gd_some hM
    refine w_iald cx hP 1 rfl g_21 dX9_configure_21 ?_
    refine lv_topi (fun x_22 ex_22 => ?_)
    have hM := nm_some hM x_22 ex_22
    refine lv_istore_n (lv' := [(2, .int x_22), (0, .ref h_t), (1, .int p1)]) hx hb dX9_configure_22 rfl hl (by decide) rfl (fun ls hl => ?_)
    refine lv_aload_n hx hb dX9_configure_23 rfl (lv_at hl 1 rfl) ?_
    refine w_get cx hP 0 9 0 rfl rfl (by decide) m_644 rfl rfl dX9_configure_24 ?_
    refine lv_iconst (v := (nI 0)) hx hb dX9_configure_27 (by decide) ?_
    refine lv_iload_n hx hb dX9_configure_28 rfl (lv_at hl 2 rfl) ?_
    obtain ⟨g_29, hM⟩ := gd_some hM
    refine w_iast cx hP hD hS 1 rfl g_29 dX9_configure_29 [ob h_t 9 [.ref h_t_now, .ref h_t_read, .ref h_t_past, .int q_13.1, .ref h_t_text, .int t_letters, .int t_stage, .ref h_t_part, .int t_size, .ref h_t_matrix, .ref h_t_power, .ref h_t_product, .ref h_t_poly, .ref h_t_old, .ref h_t_step, .ref h_t_column, .ref h_t_moved, .ref h_t_traces, .ref h_t_signed, .ref h_t_plus, .ref h_t_minus, .ref h_t_walk], aI g h_t_now 29 (upd a_t_now (nI 0).toNatClampNeg p1), aI g h_t_past 232 q_13.2] rfl (fun H locs hP hD hS => ?_)
    refine lv_aload_n hx hb dX9_configure_30 rfl (lv_at hl 1 rfl) ?_
    refine w_get cx hP 0 9 0 rfl rfl (by decide) m_644 rfl rfl dX9_configure_31 ?_
    refine lv_iconst (v := (nI 1)) hx hb dX9_configure_34 (by decide) ?_
    refine lv_iconst (v := (nI 0)) hx hb dX9_configure_35 (by decide) ?_
    obtain ⟨g_36, hM⟩ := gd_some hM
    refine w_iast cx hP hD hS 1 rfl g_36 dX9_configure_36 [ob h_t 9 [.ref h_t_now, .ref h_t_read, .ref h_t_past, .int q_13.1, .ref h_t_text, .int t_letters, .int t_stage, .ref h_t_part, .int t_size, .ref h_t_matrix, .ref h_t_power, .ref h_t_product, .ref h_t_poly, .ref h_t_old, .ref h_t_step, .ref h_t_column, .ref h_t_moved, .ref h_t_traces, .ref h_t_signed, .ref h_t_plus, .ref h_t_minus, .ref h_t_walk], aI g h_t_now 29 (upd (upd a_t_now (nI 0).toNatClampNeg p1) (nI 1).toNatClampNeg (nI 0)), aI g h_t_past 232 q_13.2] rfl (fun H locs hP hD hS => ?_)
    refine lv_iload_n hx hb dX9_configure_37 rfl (lv_at hl 0 rfl) ?_
    obtain rfl := Option.some.inj hM
    exact hfin 38 _ _ _ dX9_configure_38 hP hD hS
  · have hM := if_t hM c_7
    refine lv_iconst (v := (nI 4294967295)) hx hb dX9_configure_10 (by decide) ?_
    obtain rfl := Option.some.inj hM
    exact hfin 11 _ _ _ dX9_configure_11 hP hD hS
noncomputable def f_X9_addEdge (p1 : Int32) (p2 : Int32) (p3 : Int32) (t_saved : Int32) (t_letters : Int32) (t_stage : Int32) (t_size : Int32) (a_t_now : Nat → Int32) (a_t_past : Nat → Int32) : Option (Int32 × Int32 × (Nat → Int32) × (Nat → Int32)) :=
  bd (f_X9_isVertex p1 t_saved t_letters t_stage t_size a_t_now) (fun (q_2 : Int32) => if q_2 = 0 then some ((nI 4294967295), t_saved, a_t_now, a_t_past) else bd (f_X9_isVertex p2 t_saved t_letters t_stage t_size a_t_now) (fun (q_10 : Int32) => if q_10 = 0 then some ((nI 4294967295), t_saved, a_t_now, a_t_past) else if p1 = p2 then some ((nI 4294967295), t_saved, a_t_now, a_t_past) else if p3 = (nI 1) then gd (inb (nI 1) 29) (if (a_t_now (nI 1).toNatClampNeg) = (nI 9) then some ((nI 4294967293), t_saved, a_t_now, a_t_past) else bd (f_X9_save t_saved t_letters t_stage t_size a_t_now a_t_past) (fun (q_48 : Int32 × (Nat → Int32)) => gd (inb (nI 1) 29) (nm ((nI 2) + ((nI 3) * (a_t_now (nI 1).toNatClampNeg))) (fun (x_61 : Int32) => gd (inb x_61 29) (gd (inb (x_61 + (nI 1)) 29) (gd (inb (x_61 + (nI 2)) 29) (gd (inb (nI 1) 29) (gd (inb (nI 1) 29) (gd (inb (nI 1) 29) (some (((upd (upd (upd (upd a_t_now x_61.toNatClampNeg p1) (x_61 + (nI 1)).toNatClampNeg p2) (x_61 + (nI 2)).toNatClampNeg p3) (nI 1).toNatClampNeg (((upd (upd (upd a_t_now x_61.toNatClampNeg p1) (x_61 + (nI 1)).toNatClampNeg p2) (x_61 + (nI 2)).toNatClampNeg p3) (nI 1).toNatClampNeg) + (nI 1))) (nI 1).toNatClampNeg) - (nI 1), q_48.1, upd (upd (upd (upd a_t_now x_61.toNatClampNeg p1) (x_61 + (nI 1)).toNatClampNeg p2) (x_61 + (nI 2)).toNatClampNeg p3) (nI 1).toNatClampNeg (((upd (upd (upd a_t_now x_61.toNatClampNeg p1) (x_61 + (nI 1)).toNatClampNeg p2) (x_61 + (nI 2)).toNatClampNeg p3) (nI 1).toNatClampNeg) + (nI 1)), q_48.2))))))))))) else if p3 = (nI 4294967295) then gd (inb (nI 1) 29) (if (a_t_now (nI 1).toNatClampNeg) = (nI 9) then some ((nI 4294967293), t_saved, a_t_now, a_t_past) else bd (f_X9_save t_saved t_letters t_stage t_size a_t_now a_t_past) (fun (q_48 : Int32 × (Nat → Int32)) => gd (inb (nI 1) 29) (nm ((nI 2) + ((nI 3) * (a_t_now (nI 1).toNatClampNeg))) (fun (x_61 : Int32) => gd (inb x_61 29) (gd (inb (x_61 + (nI 1)) 29) (gd (inb (x_61 + (nI 2)) 29) (gd (inb (nI 1) 29) (gd (inb (nI 1) 29) (gd (inb (nI 1) 29) (some (((upd (upd (upd (upd a_t_now x_61.toNatClampNeg p1) (x_61 + (nI 1)).toNatClampNeg p2) (x_61 + (nI 2)).toNatClampNeg p3) (nI 1).toNatClampNeg (((upd (upd (upd a_t_now x_61.toNatClampNeg p1) (x_61 + (nI 1)).toNatClampNeg p2) (x_61 + (nI 2)).toNatClampNeg p3) (nI 1).toNatClampNeg) + (nI 1))) (nI 1).toNatClampNeg) - (nI 1), q_48.1, upd (upd (upd (upd a_t_now x_61.toNatClampNeg p1) (x_61 + (nI 1)).toNatClampNeg p2) (x_61 + (nI 2)).toNatClampNeg p3) (nI 1).toNatClampNeg (((upd (upd (upd a_t_now x_61.toNatClampNeg p1) (x_61 + (nI 1)).toNatClampNeg p2) (x_61 + (nI 2)).toNatClampNeg p3) (nI 1).toNatClampNeg) + (nI 1)), q_48.2))))))))))) else some ((nI 4294967295), t_saved, a_t_now, a_t_past)))
theorem yq_X9_addEdge : yq yX9_addEdge 3 := by unfold yq; decide +kernel
set_option maxHeartbeats 4000000 in
set_option maxRecDepth 100000 in
theorem c_X9_addEdge (g : GG) (l : Launch) (h_t : Nat) (h_t_now : Nat) (h_t_read : Nat) (h_t_past : Nat) (h_t_text : Nat) (h_t_part : Nat) (h_t_matrix : Nat) (h_t_power : Nat) (h_t_product : Nat) (h_t_poly : Nat) (h_t_old : Nat) (h_t_step : Nat) (h_t_column : Nat) (h_t_moved : Nat) (h_t_traces : Nat) (h_t_signed : Nat) (h_t_plus : Nat) (h_t_minus : Nat) (h_t_walk : Nat) (p1 : Int32) (p2 : Int32) (p3 : Int32) (t_saved : Int32) (t_letters : Int32) (t_stage : Int32) (t_size : Int32) (a_t_now : Nat → Int32) (a_t_past : Nat → Int32) {R : Int32 × Int32 × (Nat → Int32) × (Nat → Int32)} (hM : f_X9_addEdge p1 p2 p3 t_saved t_letters t_stage t_size a_t_now a_t_past = some R) : CT g l yX9_addEdge cX9_addEdge 5 (some .int) 2 43 [.ref h_t, .int p1, .int p2, .int p3] [ob h_t 9 [.ref h_t_now, .ref h_t_read, .ref h_t_past, .int t_saved, .ref h_t_text, .int t_letters, .int t_stage, .ref h_t_part, .int t_size, .ref h_t_matrix, .ref h_t_power, .ref h_t_product, .ref h_t_poly, .ref h_t_old, .ref h_t_step, .ref h_t_column, .ref h_t_moved, .ref h_t_traces, .ref h_t_signed, .ref h_t_plus, .ref h_t_minus, .ref h_t_walk], aI g h_t_now 29 a_t_now, aI g h_t_past 232 a_t_past] [ob h_t 9 [.ref h_t_now, .ref h_t_read, .ref h_t_past, .int R.2.1, .ref h_t_text, .int t_letters, .int t_stage, .ref h_t_part, .int t_size, .ref h_t_matrix, .ref h_t_power, .ref h_t_product, .ref h_t_poly, .ref h_t_old, .ref h_t_step, .ref h_t_column, .ref h_t_moved, .ref h_t_traces, .ref h_t_signed, .ref h_t_plus, .ref h_t_minus, .ref h_t_walk], aI g h_t_now 29 R.2.2.1, aI g h_t_past 232 R.2.2.2] (some (.int R.1)) := by
  refine ct_i (by decide +kernel) (Nat.le_of_ble_eq_true rfl) ?_
  intro p e s m args below meth c Q A ls cx hP hD hA hl hfin
  obtain ⟨hx, hb, hml, hown, hts, hK⟩ := id cx
  have hl : lv_has ls 5 [(0, .ref h_t), (1, .int p1), (2, .int p2), (3, .int p3)] := hl
  have hS : va_S A s.heap s.heap [] := va_S.rf
  refine lv_aload_n hx hb dX9_addEdge_0 rfl (lv_at hl 0 rfl) ?_
  refine lv_iload_n hx hb dX9_addEdge_1 rfl (lv_at hl 1 rfl) ?_
  obtain ⟨q_2, hc_2, hM⟩ := bd_some hM
  refine w_callV cx hP hD hS hA (c_X9_isVertex g l h_t h_t_now h_t_read h_t_past h_t_text h_t_part h_t_matrix h_t_power h_t_product h_t_poly h_t_old h_t_step h_t_column h_t_moved h_t_traces h_t_signed h_t_plus h_t_minus h_t_walk p1 t_saved t_letters t_stage t_size a_t_now hc_2) [0, 1] rfl (by decide) rfl [ob h_t 9 [.ref h_t_now, .ref h_t_read, .ref h_t_past, .int t_saved, .ref h_t_text, .int t_letters, .int t_stage, .ref h_t_part, .int t_size, .ref h_t_matrix, .ref h_t_power, .ref h_t_product, .ref h_t_poly, .ref h_t_old, .ref h_t_step, .ref h_t_column, .ref h_t_moved, .ref h_t_traces, .ref h_t_signed, .ref h_t_plus, .ref h_t_minus, .ref h_t_walk], aI g h_t_now 29 a_t_now, aI g h_t_past 232 a_t_past] rfl 0 9 rfl rfl yq_X9_isVertex rfl m_726 m_728 m_17 m_51 m_729 ⟨Nat.le_of_ble_eq_true rfl, Nat.le_of_ble_eq_true rfl⟩ rfl rfl hl.1 (Nat.le_of_ble_eq_true rfl) dX9_addEdge_2 ⟨Nat.le_refl 0, Nat.le_refl 0⟩ rfl (fun H locs hP hD hS => ?_)
  refine lv_if_eq (tgt := 31) hx hb dX9_addEdge_5 (by decide) (fun c_5 => ?_) (fun c_5 => ?_)
  · have hM := if_t hM c_5
    refine lv_iconst (v := (nI 4294967295)) hx hb dX9_addEdge_31 (by decide) ?_
    obtain rfl := Option.some.inj hM
    exact hfin 32 _ _ _ dX9_addEdge_32 hP hD hS
  · have hM := if_f hM c_5
    refine lv_aload_n hx hb dX9_addEdge_8 rfl (lv_at hl 0 rfl) ?_
    refine lv_iload_n hx hb dX9_addEdge_9 rfl (lv_at hl 2 rfl) ?_
    obtain ⟨q_10, hc_10, hM⟩ := bd_some hM
    refine w_callV cx hP hD hS hA (c_X9_isVertex g l h_t h_t_now h_t_read h_t_past h_t_text h_t_part h_t_matrix h_t_power h_t_product h_t_poly h_t_old h_t_step h_t_column h_t_moved h_t_traces h_t_signed h_t_plus h_t_minus h_t_walk p2 t_saved t_letters t_stage t_size a_t_now hc_10) [0, 1] rfl (by decide) rfl [ob h_t 9 [.ref h_t_now, .ref h_t_read, .ref h_t_past, .int t_saved, .ref h_t_text, .int t_letters, .int t_stage, .ref h_t_part, .int t_size, .ref h_t_matrix, .ref h_t_power, .ref h_t_product, .ref h_t_poly, .ref h_t_old, .ref h_t_step, .ref h_t_column, .ref h_t_moved, .ref h_t_traces, .ref h_t_signed, .ref h_t_plus, .ref h_t_minus, .ref h_t_walk], aI g h_t_now 29 a_t_now, aI g h_t_past 232 a_t_past] rfl 0 9 rfl rfl yq_X9_isVertex rfl m_726 m_728 m_17 m_51 m_729 ⟨Nat.le_of_ble_eq_true rfl, Nat.le_of_ble_eq_true rfl⟩ rfl rfl hl.1 (Nat.le_of_ble_eq_true rfl) dX9_addEdge_10 ⟨Nat.le_refl 0, Nat.le_refl 0⟩ rfl (fun H locs hP hD hS => ?_)
    refine lv_if_eq (tgt := 31) hx hb dX9_addEdge_13 (by decide) (fun c_13 => ?_) (fun c_13 => ?_)
    · have hM := if_t hM c_13
      refine lv_iconst (v := (nI 4294967295)) hx hb dX9_addEdge_31 (by decide) ?_
      obtain rfl := Option.some.inj hM
      exact hfin 32 _ _ _ dX9_addEdge_32 hP hD hS
    · have hM := if_f hM c_13
      refine lv_iload_n hx hb dX9_addEdge_16 rfl (lv_at hl 1 rfl) ?_
      refine lv_iload_n hx hb dX9_addEdge_17 rfl (lv_at hl 2 rfl) ?_
      refine lv_icmp_eq (tgt := 31) hx hb dX9_addEdge_18 (by decide) (fun c_18 => ?_) (fun c_18 => ?_)
      · have hM := if_t hM c_18
        refine lv_iconst (v := (nI 4294967295)) hx hb dX9_addEdge_31 (by decide) ?_
        obtain rfl := Option.some.inj hM
        exact hfin 32 _ _ _ dX9_addEdge_32 hP hD hS
      · have hM := if_f hM c_18
        refine lv_iload_n hx hb dX9_addEdge_21 rfl (lv_at hl 3 rfl) ?_
        refine lv_iconst (v := (nI 1)) hx hb dX9_addEdge_22 (by decide) ?_
        refine lv_icmp_eq (tgt := 33) hx hb dX9_addEdge_23 (by decide) (fun c_23 => ?_) (fun c_23 => ?_)
        · have hM := if_t hM c_23
          refine lv_aload_n hx hb dX9_addEdge_33 rfl (lv_at hl 0 rfl) ?_
          refine w_get cx hP 0 9 0 rfl rfl (by decide) m_644 rfl rfl dX9_addEdge_34 ?_
          refine lv_iconst (v := (nI 1)) hx hb dX9_addEdge_37 (by decide) ?_
          obtain ⟨g_38, hM⟩ := gd_some hM
          refine w_iald cx hP 1 rfl g_38 dX9_addEdge_38 ?_
          refine lv_bipush (v := (nI 9)) hx hb dX9_addEdge_39 (by decide) ?_
          refine lv_icmp_ne (tgt := 47) hx hb dX9_addEdge_41 (by decide) (fun c_41 => ?_) (fun c_41 => ?_)
          · have hM := if_f hM c_41
            refine lv_aload_n hx hb dX9_addEdge_47 rfl (lv_at hl 0 rfl) ?_
            obtain ⟨q_48, hc_48, hM⟩ := bd_some hM
            refine w_callV cx hP hD hS hA (c_X9_save g l h_t h_t_now h_t_read h_t_past h_t_text h_t_part h_t_matrix h_t_power h_t_product h_t_poly h_t_old h_t_step h_t_column h_t_moved h_t_traces h_t_signed h_t_plus h_t_minus h_t_walk t_saved t_letters t_stage t_size a_t_now a_t_past hc_48) [0, 1, 2] rfl (by decide) rfl [ob h_t 9 [.ref h_t_now, .ref h_t_read, .ref h_t_past, .int q_48.1, .ref h_t_text, .int t_letters, .int t_stage, .ref h_t_part, .int t_size, .ref h_t_matrix, .ref h_t_power, .ref h_t_product, .ref h_t_poly, .ref h_t_old, .ref h_t_step, .ref h_t_column, .ref h_t_moved, .ref h_t_traces, .ref h_t_signed, .ref h_t_plus, .ref h_t_minus, .ref h_t_walk], aI g h_t_now 29 a_t_now, aI g h_t_past 232 q_48.2] rfl 0 9 rfl rfl yq_X9_save rfl m_718 m_720 m_16 m_51 m_721 ⟨Nat.le_of_ble_eq_true rfl, Nat.le_of_ble_eq_true rfl⟩ rfl rfl hl.1 (Nat.le_of_ble_eq_true rfl) dX9_addEdge_48 ⟨Nat.le_refl 0, Nat.le_refl 0⟩ rfl (fun H locs hP hD hS => ?_)
            refine lv_iconst (v := (nI 2)) hx hb dX9_addEdge_51 (by decide) ?_
            refine lv_iconst (v := (nI 3)) hx hb dX9_addEdge_52 (by decide) ?_
            refine lv_aload_n hx hb dX9_addEdge_53 rfl (lv_at hl 0 rfl) ?_
            refine w_get cx hP 0 9 0 rfl rfl (by decide) m_644 rfl rfl dX9_addEdge_54 ?_
            refine lv_iconst (v := (nI 1)) hx hb dX9_addEdge_57 (by decide) ?_
            obtain ⟨g_58, hM⟩ := gd_some hM
            refine w_iald cx hP 1 rfl g_58 dX9_addEdge_58 ?_
            refine lv_imul hx hb dX9_addEdge_59 ?_
            refine lv_iadd hx hb dX9_addEdge_60 ?_
            refine lv_topi (fun x_61 ex_61 => ?_)
            have hM := nm_some hM x_61 ex_61
            refine lv_istore (lv' := [(4, .int x_61), (0, .ref h_t), (1, .int p1), (2, .int p2), (3, .int p3)]) hx hb dX9_addEdge_61 hl (by decide) rfl (fun ls hl => ?_)
            refine lv_aload_n hx hb dX9_addEdge_63 rfl (lv_at hl 1 rfl) ?_
            refine w_get cx hP 0 9 0 rfl rfl (by decide) m_644 rfl rfl dX9_addEdge_64 ?_
            refine lv_iload hx hb dX9_addEdge_67 (lv_at hl 0 rfl) ?_
            refine lv_iload_n hx hb dX9_addEdge_69 rfl (lv_at hl 2 rfl) ?_
            obtain ⟨g_70, hM⟩ := gd_some hM
            refine w_iast cx hP hD hS 1 rfl g_70 dX9_addEdge_70 [ob h_t 9 [.ref h_t_now, .ref h_t_read, .ref h_t_past, .int q_48.1, .ref h_t_text, .int t_letters, .int t_stage, .ref h_t_part, .int t_size, .ref h_t_matrix, .ref h_t_power, .ref h_t_product, .ref h_t_poly, .ref h_t_old, .ref h_t_step, .ref h_t_column, .ref h_t_moved, .ref h_t_traces, .ref h_t_signed, .ref h_t_plus, .ref h_t_minus, .ref h_t_walk], aI g h_t_now 29 (upd a_t_now x_61.toNatClampNeg p1), aI g h_t_past 232 q_48.2] rfl (fun H locs hP hD hS => ?_)
            refine lv_aload_n hx hb dX9_addEdge_71 rfl (lv_at hl 1 rfl) ?_
            refine w_get cx hP 0 9 0 rfl rfl (by decide) m_644 rfl rfl dX9_addEdge_72 ?_
            refine lv_iload hx hb dX9_addEdge_75 (lv_at hl 0 rfl) ?_
            refine lv_iconst (v := (nI 1)) hx hb dX9_addEdge_77 (by decide) ?_
            refine lv_iadd hx hb dX9_addEdge_78 ?_
            refine lv_iload_n hx hb dX9_addEdge_79 rfl (lv_at hl 3 rfl) ?_
            obtain ⟨g_80, hM⟩ := gd_some hM
            refine w_iast cx hP hD hS 1 rfl g_80 dX9_addEdge_80 [ob h_t 9 [.ref h_t_now, .ref h_t_read, .ref h_t_past, .int q_48.1, .ref h_t_text, .int t_letters, .int t_stage, .ref h_t_part, .int t_size, .ref h_t_matrix, .ref h_t_power, .ref h_t_product, .ref h_t_poly, .ref h_t_old, .ref h_t_step, .ref h_t_column, .ref h_t_moved, .ref h_t_traces, .ref h_t_signed, .ref h_t_plus, .ref h_t_minus, .ref h_t_walk], aI g h_t_now 29 (upd (upd a_t_now x_61.toNatClampNeg p1) (x_61 + (nI 1)).toNatClampNeg p2), aI g h_t_past 232 q_48.2] rfl (fun H locs hP hD hS => ?_)
            refine lv_aload_n hx hb dX9_addEdge_81 rfl (lv_at hl 1 rfl) ?_
            refine w_get cx hP 0 9 0 rfl rfl (by decide) m_644 rfl rfl dX9_addEdge_82 ?_
            refine lv_iload hx hb dX9_addEdge_85 (lv_at hl 0 rfl) ?_
            refine lv_iconst (v := (nI 2)) hx hb dX9_addEdge_87 (by decide) ?_
            refine lv_iadd hx hb dX9_addEdge_88 ?_
            refine lv_iload_n hx hb dX9_addEdge_89 rfl (lv_at hl 4 rfl) ?_
            obtain ⟨g_90, hM⟩ := gd_some hM
            refine w_iast cx hP hD hS 1 rfl g_90 dX9_addEdge_90 [ob h_t 9 [.ref h_t_now, .ref h_t_read, .ref h_t_past, .int q_48.1, .ref h_t_text, .int t_letters, .int t_stage, .ref h_t_part, .int t_size, .ref h_t_matrix, .ref h_t_power, .ref h_t_product, .ref h_t_poly, .ref h_t_old, .ref h_t_step, .ref h_t_column, .ref h_t_moved, .ref h_t_traces, .ref h_t_signed, .ref h_t_plus, .ref h_t_minus, .ref h_t_walk], aI g h_t_now 29 (upd (upd (upd a_t_now x_61.toNatClampNeg p1) (x_61 + (nI 1)).toNatClampNeg p2) (x_61 + (nI 2)).toNatClampNeg p3), aI g h_t_past 232 q_48.2] rfl (fun H locs hP hD hS => ?_)
            refine lv_aload_n hx hb dX9_addEdge_91 rfl (lv_at hl 1 rfl) ?_
            refine w_get cx hP 0 9 0 rfl rfl (by decide) m_644 rfl rfl dX9_addEdge_92 ?_
            refine lv_iconst (v := (nI 1)) hx hb dX9_addEdge_95 (by decide) ?_
            refine lv_dup2_11 hx hb dX9_addEdge_96 rfl rfl ?_
            obtain ⟨g_97, hM⟩ := gd_some hM
            refine w_iald cx hP 1 rfl g_97 dX9_addEdge_97 ?_
            refine lv_iconst (v := (nI 1)) hx hb dX9_addEdge_98 (by decide) ?_
            refine lv_iadd hx hb dX9_addEdge_99 ?_
            obtain ⟨g_100, hM⟩ := gd_some hM
            refine w_iast cx hP hD hS 1 rfl g_100 dX9_addEdge_100 [ob h_t 9 [.ref h_t_now, .ref h_t_read, .ref h_t_past, .int q_48.1, .ref h_t_text, .int t_letters, .int t_stage, .ref h_t_part, .int t_size, .ref h_t_matrix, .ref h_t_power, .ref h_t_product, .ref h_t_poly, .ref h_t_old, .ref h_t_step, .ref h_t_column, .ref h_t_moved, .ref h_t_traces, .ref h_t_signed, .ref h_t_plus, .ref h_t_minus, .ref h_t_walk], aI g h_t_now 29 (upd (upd (upd (upd a_t_now x_61.toNatClampNeg p1) (x_61 + (nI 1)).toNatClampNeg p2) (x_61 + (nI 2)).toNatClampNeg p3) (nI 1).toNatClampNeg (((upd (upd (upd a_t_now x_61.toNatClampNeg p1) (x_61 + (nI 1)).toNatClampNeg p2) (x_61 + (nI 2)).toNatClampNeg p3) (nI 1).toNatClampNeg) + (nI 1))), aI g h_t_past 232 q_48.2] rfl (fun H locs hP hD hS => ?_)
            refine lv_aload_n hx hb dX9_addEdge_101 rfl (lv_at hl 1 rfl) ?_
            refine w_get cx hP 0 9 0 rfl rfl (by decide) m_644 rfl rfl dX9_addEdge_102 ?_
            refine lv_iconst (v := (nI 1)) hx hb dX9_addEdge_105 (by decide) ?_
            obtain ⟨g_106, hM⟩ := gd_some hM
            refine w_iald cx hP 1 rfl g_106 dX9_addEdge_106 ?_
            refine lv_iconst (v := (nI 1)) hx hb dX9_addEdge_107 (by decide) ?_
            refine lv_isub hx hb dX9_addEdge_108 ?_
            obtain rfl := Option.some.inj hM
            exact hfin 109 _ _ _ dX9_addEdge_109 hP hD hS
          · have hM := if_t hM c_41
            refine lv_bipush (v := (nI 4294967293)) hx hb dX9_addEdge_44 (by decide) ?_
            obtain rfl := Option.some.inj hM
            exact hfin 46 _ _ _ dX9_addEdge_46 hP hD hS
        · have hM := if_f hM c_23
          refine lv_iload_n hx hb dX9_addEdge_26 rfl (lv_at hl 3 rfl) ?_
          refine lv_iconst (v := (nI 4294967295)) hx hb dX9_addEdge_27 (by decide) ?_
          refine lv_icmp_eq (tgt := 33) hx hb dX9_addEdge_28 (by decide) (fun c_28 => ?_) (fun c_28 => ?_)
          · have hM := if_t hM c_28
            refine lv_aload_n hx hb dX9_addEdge_33 rfl (lv_at hl 0 rfl) ?_
            refine w_get cx hP 0 9 0 rfl rfl (by decide) m_644 rfl rfl dX9_addEdge_34 ?_
            refine lv_iconst (v := (nI 1)) hx hb dX9_addEdge_37 (by decide) ?_
            obtain ⟨g_38, hM⟩ := gd_some hM
            refine w_iald cx hP 1 rfl g_38 dX9_addEdge_38 ?_
            refine lv_bipush (v := (nI 9)) hx hb dX9_addEdge_39 (by decide) ?_
            refine lv_icmp_ne (tgt := 47) hx hb dX9_addEdge_41 (by decide) (fun c_41 => ?_) (fun c_41 => ?_)
            · have hM := if_f hM c_41
              refine lv_aload_n hx hb dX9_addEdge_47 rfl (lv_at hl 0 rfl) ?_
              obtain ⟨q_48, hc_48, hM⟩ := bd_some hM
              refine w_callV cx hP hD hS hA (c_X9_save g l h_t h_t_now h_t_read h_t_past h_t_text h_t_part h_t_matrix h_t_power h_t_product h_t_poly h_t_old h_t_step h_t_column h_t_moved h_t_traces h_t_signed h_t_plus h_t_minus h_t_walk t_saved t_letters t_stage t_size a_t_now a_t_past hc_48) [0, 1, 2] rfl (by decide) rfl [ob h_t 9 [.ref h_t_now, .ref h_t_read, .ref h_t_past, .int q_48.1, .ref h_t_text, .int t_letters, .int t_stage, .ref h_t_part, .int t_size, .ref h_t_matrix, .ref h_t_power, .ref h_t_product, .ref h_t_poly, .ref h_t_old, .ref h_t_step, .ref h_t_column, .ref h_t_moved, .ref h_t_traces, .ref h_t_signed, .ref h_t_plus, .ref h_t_minus, .ref h_t_walk], aI g h_t_now 29 a_t_now, aI g h_t_past 232 q_48.2] rfl 0 9 rfl rfl yq_X9_save rfl m_718 m_720 m_16 m_51 m_721 ⟨Nat.le_of_ble_eq_true rfl, Nat.le_of_ble_eq_true rfl⟩ rfl rfl hl.1 (Nat.le_of_ble_eq_true rfl) dX9_addEdge_48 ⟨Nat.le_refl 0, Nat.le_refl 0⟩ rfl (fun H locs hP hD hS => ?_)
              refine lv_iconst (v := (nI 2)) hx hb dX9_addEdge_51 (by decide) ?_
              refine lv_iconst (v := (nI 3)) hx hb dX9_addEdge_52 (by decide) ?_
              refine lv_aload_n hx hb dX9_addEdge_53 rfl (lv_at hl 0 rfl) ?_
              refine w_get cx hP 0 9 0 rfl rfl (by decide) m_644 rfl rfl dX9_addEdge_54 ?_
              refine lv_iconst (v := (nI 1)) hx hb dX9_addEdge_57 (by decide) ?_
              obtain ⟨g_58, hM⟩ := gd_some hM
              refine w_iald cx hP 1 rfl g_58 dX9_addEdge_58 ?_
              refine lv_imul hx hb dX9_addEdge_59 ?_
              refine lv_iadd hx hb dX9_addEdge_60 ?_
              refine lv_topi (fun x_61 ex_61 => ?_)
              have hM := nm_some hM x_61 ex_61
              refine lv_istore (lv' := [(4, .int x_61), (0, .ref h_t), (1, .int p1), (2, .int p2), (3, .int p3)]) hx hb dX9_addEdge_61 hl (by decide) rfl (fun ls hl => ?_)
              refine lv_aload_n hx hb dX9_addEdge_63 rfl (lv_at hl 1 rfl) ?_
              refine w_get cx hP 0 9 0 rfl rfl (by decide) m_644 rfl rfl dX9_addEdge_64 ?_
              refine lv_iload hx hb dX9_addEdge_67 (lv_at hl 0 rfl) ?_
              refine lv_iload_n hx hb dX9_addEdge_69 rfl (lv_at hl 2 rfl) ?_
              obtain ⟨g_70, hM⟩ := gd_some hM
              refine w_iast cx hP hD hS 1 rfl g_70 dX9_addEdge_70 [ob h_t 9 [.ref h_t_now, .ref h_t_read, .ref h_t_past, .int q_48.1, .ref h_t_text, .int t_letters, .int t_stage, .ref h_t_part, .int t_size, .ref h_t_matrix, .ref h_t_power, .ref h_t_product, .ref h_t_poly, .ref h_t_old, .ref h_t_step, .ref h_t_column, .ref h_t_moved, .ref h_t_traces, .ref h_t_signed, .ref h_t_plus, .ref h_t_minus, .ref h_t_walk], aI g h_t_now 29 (upd a_t_now x_61.toNatClampNeg p1), aI g h_t_past 232 q_48.2] rfl (fun H locs hP hD hS => ?_)
              refine lv_aload_n hx hb dX9_addEdge_71 rfl (lv_at hl 1 rfl) ?_
              refine w_get cx hP 0 9 0 rfl rfl (by decide) m_644 rfl rfl dX9_addEdge_72 ?_
              refine lv_iload hx hb dX9_addEdge_75 (lv_at hl 0 rfl) ?_
              refine lv_iconst (v := (nI 1)) hx hb dX9_addEdge_77 (by decide) ?_
              refine lv_iadd hx hb dX9_addEdge_78 ?_
              refine lv_iload_n hx hb dX9_addEdge_79 rfl (lv_at hl 3 rfl) ?_
              obtain ⟨g_80, hM⟩ := gd_some hM
              refine w_iast cx hP hD hS 1 rfl g_80 dX9_addEdge_80 [ob h_t 9 [.ref h_t_now, .ref h_t_read, .ref h_t_past, .int q_48.1, .ref h_t_text, .int t_letters, .int t_stage, .ref h_t_part, .int t_size, .ref h_t_matrix, .ref h_t_power, .ref h_t_product, .ref h_t_poly, .ref h_t_old, .ref h_t_step, .ref h_t_column, .ref h_t_moved, .ref h_t_traces, .ref h_t_signed, .ref h_t_plus, .ref h_t_minus, .ref h_t_walk], aI g h_t_now 29 (upd (upd a_t_now x_61.toNatClampNeg p1) (x_61 + (nI 1)).toNatClampNeg p2), aI g h_t_past 232 q_48.2] rfl (fun H locs hP hD hS => ?_)
              refine lv_aload_n hx hb dX9_addEdge_81 rfl (lv_at hl 1 rfl) ?_
              refine w_get cx hP 0 9 0 rfl rfl (by decide) m_644 rfl rfl dX9_addEdge_82 ?_
              refine lv_iload hx hb dX9_addEdge_85 (lv_at hl 0 rfl) ?_
              refine lv_iconst (v := (nI 2)) hx hb dX9_addEdge_87 (by decide) ?_
              refine lv_iadd hx hb dX9_addEdge_88 ?_
              refine lv_iload_n hx hb dX9_addEdge_89 rfl (lv_at hl 4 rfl) ?_
              obtain ⟨g_90, hM⟩ := gd_some hM
              refine w_iast cx hP hD hS 1 rfl g_90 dX9_addEdge_90 [ob h_t 9 [.ref h_t_now, .ref h_t_read, .ref h_t_past, .int q_48.1, .ref h_t_text, .int t_letters, .int t_stage, .ref h_t_part, .int t_size, .ref h_t_matrix, .ref h_t_power, .ref h_t_product, .ref h_t_poly, .ref h_t_old, .ref h_t_step, .ref h_t_column, .ref h_t_moved, .ref h_t_traces, .ref h_t_signed, .ref h_t_plus, .ref h_t_minus, .ref h_t_walk], aI g h_t_now 29 (upd (upd (upd a_t_now x_61.toNatClampNeg p1) (x_61 + (nI 1)).toNatClampNeg p2) (x_61 + (nI 2)).toNatClampNeg p3), aI g h_t_past 232 q_48.2] rfl (fun H locs hP hD hS => ?_)
              refine lv_aload_n hx hb dX9_addEdge_91 rfl (lv_at hl 1 rfl) ?_
              refine w_get cx hP 0 9 0 rfl rfl (by decide) m_644 rfl rfl dX9_addEdge_92 ?_
              refine lv_iconst (v := (nI 1)) hx hb dX9_addEdge_95 (by decide) ?_
              refine lv_dup2_11 hx hb dX9_addEdge_96 rfl rfl ?_
              obtain ⟨g_97, hM⟩ := gd_some hM
              refine w_iald cx hP 1 rfl g_97 dX9_addEdge_97 ?_
              refine lv_iconst (v := (nI 1)) hx hb dX9_addEdge_98 (by decide) ?_
              refine lv_iadd hx hb dX9_addEdge_99 ?_
              obtain ⟨g_100, hM⟩ := gd_some hM
              refine w_iast cx hP hD hS 1 rfl g_100 dX9_addEdge_100 [ob h_t 9 [.ref h_t_now, .ref h_t_read, .ref h_t_past, .int q_48.1, .ref h_t_text, .int t_letters, .int t_stage, .ref h_t_part, .int t_size, .ref h_t_matrix, .ref h_t_power, .ref h_t_product, .ref h_t_poly, .ref h_t_old, .ref h_t_step, .ref h_t_column, .ref h_t_moved, .ref h_t_traces, .ref h_t_signed, .ref h_t_plus, .ref h_t_minus, .ref h_t_walk], aI g h_t_now 29 (upd (upd (upd (upd a_t_now x_61.toNatClampNeg p1) (x_61 + (nI 1)).toNatClampNeg p2) (x_61 + (nI 2)).toNatClampNeg p3) (nI 1).toNatClampNeg (((upd (upd (upd a_t_now x_61.toNatClampNeg p1) (x_61 + (nI 1)).toNatClampNeg p2) (x_61 + (nI 2)).toNatClampNeg p3) (nI 1).toNatClampNeg) + (nI 1))), aI g h_t_past 232 q_48.2] rfl (fun H locs hP hD hS => ?_)
              refine lv_aload_n hx hb dX9_addEdge_101 rfl (lv_at hl 1 rfl) ?_
              refine w_get cx hP 0 9 0 rfl rfl (by decide) m_644 rfl rfl dX9_addEdge_102 ?_
              refine lv_iconst (v := (nI 1)) hx hb dX9_addEdge_105 (by decide) ?_
              obtain ⟨g_106, hM⟩ := gd_some hM
              refine w_iald cx hP 1 rfl g_106 dX9_addEdge_106 ?_
              refine lv_iconst (v := (nI 1)) hx hb dX9_addEdge_107 (by decide) ?_
              refine lv_isub hx hb dX9_addEdge_108 ?_
              obtain rfl := Option.some.inj hM
              exact hfin 109 _ _ _ dX9_addEdge_109 hP hD hS
            · have hM := if_t hM c_41
              refine lv_bipush (v := (nI 4294967293)) hx hb dX9_addEdge_44 (by decide) ?_
              obtain rfl := Option.some.inj hM
              exact hfin 46 _ _ _ dX9_addEdge_46 hP hD hS
          · have hM := if_f hM c_28
            refine lv_iconst (v := (nI 4294967295)) hx hb dX9_addEdge_31 (by decide) ?_
            obtain rfl := Option.some.inj hM
            exact hfin 32 _ _ _ dX9_addEdge_32 hP hD hS
noncomputable def b_X9_removeEdge_30 : Int32 × (Nat → Int32) → Option ((Int32 × (Nat → Int32)) ⊕ ((Nat → Int32))) := fun z_30 =>
  gd (inb (nI 1) 29) (if ((nI 2) + ((nI 3) * (z_30.2 (nI 1).toNatClampNeg))) ≤ z_30.1 then some (.inr z_30.2) else gd (inb (z_30.1 + (nI 3)) 29) (gd (inb z_30.1 29) (some (.inl (z_30.1 + (nI 1), upd z_30.2 z_30.1.toNatClampNeg (z_30.2 (z_30.1 + (nI 3)).toNatClampNeg))))))
noncomputable def f_X9_removeEdge (p1 : Int32) (t_saved : Int32) (t_letters : Int32) (t_stage : Int32) (t_size : Int32) (a_t_now : Nat → Int32) (a_t_past : Nat → Int32) : Option (Int32 × Int32 × (Nat → Int32) × (Nat → Int32)) :=
  bd (f_X9_isEdge p1 t_saved t_letters t_stage t_size a_t_now) (fun (q_2 : Int32) => if q_2 = 0 then some ((nI 4294967295), t_saved, a_t_now, a_t_past) else bd (f_X9_save t_saved t_letters t_stage t_size a_t_now a_t_past) (fun (q_11 : Int32 × (Nat → Int32)) => gd (inb (nI 1) 29) (gd (inb (nI 1) 29) (nm ((nI 2) + ((nI 3) * p1)) (fun (x_29 : Int32) => bd (wh b_X9_removeEdge_30 (x_29, upd a_t_now (nI 1).toNatClampNeg ((a_t_now (nI 1).toNatClampNeg) - (nI 1)))) (fun (r_30 : Nat → Int32) => gd (inb (nI 1) 29) (some (r_30 (nI 1).toNatClampNeg, q_11.1, r_30, q_11.2))))))))
theorem yq_X9_removeEdge : yq yX9_removeEdge 1 := by unfold yq; decide +kernel
set_option maxHeartbeats 4000000 in
set_option maxRecDepth 100000 in
theorem c_X9_removeEdge (g : GG) (l : Launch) (h_t : Nat) (h_t_now : Nat) (h_t_read : Nat) (h_t_past : Nat) (h_t_text : Nat) (h_t_part : Nat) (h_t_matrix : Nat) (h_t_power : Nat) (h_t_product : Nat) (h_t_poly : Nat) (h_t_old : Nat) (h_t_step : Nat) (h_t_column : Nat) (h_t_moved : Nat) (h_t_traces : Nat) (h_t_signed : Nat) (h_t_plus : Nat) (h_t_minus : Nat) (h_t_walk : Nat) (p1 : Int32) (t_saved : Int32) (t_letters : Int32) (t_stage : Int32) (t_size : Int32) (a_t_now : Nat → Int32) (a_t_past : Nat → Int32) {R : Int32 × Int32 × (Nat → Int32) × (Nat → Int32)} (hM : f_X9_removeEdge p1 t_saved t_letters t_stage t_size a_t_now a_t_past = some R) : CT g l yX9_removeEdge cX9_removeEdge 3 (some .int) 2 43 [.ref h_t, .int p1] [ob h_t 9 [.ref h_t_now, .ref h_t_read, .ref h_t_past, .int t_saved, .ref h_t_text, .int t_letters, .int t_stage, .ref h_t_part, .int t_size, .ref h_t_matrix, .ref h_t_power, .ref h_t_product, .ref h_t_poly, .ref h_t_old, .ref h_t_step, .ref h_t_column, .ref h_t_moved, .ref h_t_traces, .ref h_t_signed, .ref h_t_plus, .ref h_t_minus, .ref h_t_walk], aI g h_t_now 29 a_t_now, aI g h_t_past 232 a_t_past] [ob h_t 9 [.ref h_t_now, .ref h_t_read, .ref h_t_past, .int R.2.1, .ref h_t_text, .int t_letters, .int t_stage, .ref h_t_part, .int t_size, .ref h_t_matrix, .ref h_t_power, .ref h_t_product, .ref h_t_poly, .ref h_t_old, .ref h_t_step, .ref h_t_column, .ref h_t_moved, .ref h_t_traces, .ref h_t_signed, .ref h_t_plus, .ref h_t_minus, .ref h_t_walk], aI g h_t_now 29 R.2.2.1, aI g h_t_past 232 R.2.2.2] (some (.int R.1)) := by
  refine ct_i (by decide +kernel) (Nat.le_of_ble_eq_true rfl) ?_
  intro p e s m args below meth c Q A ls cx hP hD hA hl hfin
  obtain ⟨hx, hb, hml, hown, hts, hK⟩ := id cx
  have hl : lv_has ls 3 [(0, .ref h_t), (1, .int p1)] := hl
  have hS : va_S A s.heap s.heap [] := va_S.rf
  refine lv_aload_n hx hb dX9_removeEdge_0 rfl (lv_at hl 0 rfl) ?_
  refine lv_iload_n hx hb dX9_removeEdge_1 rfl (lv_at hl 1 rfl) ?_
  obtain ⟨q_2, hc_2, hM⟩ := bd_some hM
  refine w_callV cx hP hD hS hA (c_X9_isEdge g l h_t h_t_now h_t_read h_t_past h_t_text h_t_part h_t_matrix h_t_power h_t_product h_t_poly h_t_old h_t_step h_t_column h_t_moved h_t_traces h_t_signed h_t_plus h_t_minus h_t_walk p1 t_saved t_letters t_stage t_size a_t_now hc_2) [0, 1] rfl (by decide) rfl [ob h_t 9 [.ref h_t_now, .ref h_t_read, .ref h_t_past, .int t_saved, .ref h_t_text, .int t_letters, .int t_stage, .ref h_t_part, .int t_size, .ref h_t_matrix, .ref h_t_power, .ref h_t_product, .ref h_t_poly, .ref h_t_old, .ref h_t_step, .ref h_t_column, .ref h_t_moved, .ref h_t_traces, .ref h_t_signed, .ref h_t_plus, .ref h_t_minus, .ref h_t_walk], aI g h_t_now 29 a_t_now, aI g h_t_past 232 a_t_past] rfl 0 9 rfl rfl yq_X9_isEdge rfl m_734 m_736 m_18 m_51 m_737 ⟨Nat.le_of_ble_eq_true rfl, Nat.le_of_ble_eq_true rfl⟩ rfl rfl hl.1 (Nat.le_of_ble_eq_true rfl) dX9_removeEdge_2 ⟨Nat.le_refl 0, Nat.le_refl 0⟩ rfl (fun H locs hP hD hS => ?_)
  refine lv_if_ne (tgt := 10) hx hb dX9_removeEdge_5 (by decide) (fun c_5 => ?_) (fun c_5 => ?_)
  · have hM := if_f hM c_5
    refine lv_aload_n hx hb dX9_removeEdge_10 rfl (lv_at hl 0 rfl) ?_
    obtain ⟨q_11, hc_11, hM⟩ := bd_some hM
    refine w_callV cx hP hD hS hA (c_X9_save g l h_t h_t_now h_t_read h_t_past h_t_text h_t_part h_t_matrix h_t_power h_t_product h_t_poly h_t_old h_t_step h_t_column h_t_moved h_t_traces h_t_signed h_t_plus h_t_minus h_t_walk t_saved t_letters t_stage t_size a_t_now a_t_past hc_11) [0, 1, 2] rfl (by decide) rfl [ob h_t 9 [.ref h_t_now, .ref h_t_read, .ref h_t_past, .int q_11.1, .ref h_t_text, .int t_letters, .int t_stage, .ref h_t_part, .int t_size, .ref h_t_matrix, .ref h_t_power, .ref h_t_product, .ref h_t_poly, .ref h_t_old, .ref h_t_step, .ref h_t_column, .ref h_t_moved, .ref h_t_traces, .ref h_t_signed, .ref h_t_plus, .ref h_t_minus, .ref h_t_walk], aI g h_t_now 29 a_t_now, aI g h_t_past 232 q_11.2] rfl 0 9 rfl rfl yq_X9_save rfl m_718 m_720 m_16 m_51 m_721 ⟨Nat.le_of_ble_eq_true rfl, Nat.le_of_ble_eq_true rfl⟩ rfl rfl hl.1 (Nat.le_of_ble_eq_true rfl) dX9_removeEdge_11 ⟨Nat.le_refl 0, Nat.le_refl 0⟩ rfl (fun H locs hP hD hS => ?_)
    refine lv_aload_n hx hb dX9_removeEdge_14 rfl (lv_at hl 0 rfl) ?_
    refine w_get cx hP 0 9 0 rfl rfl (by decide) m_644 rfl rfl dX9_removeEdge_15 ?_
    refine lv_iconst (v := (nI 1)) hx hb dX9_removeEdge_18 (by decide) ?_
    refine lv_dup2_11 hx hb dX9_removeEdge_19 rfl rfl ?_
    obtain ⟨g_20, hM⟩ := gd_some hM
    refine w_iald cx hP 1 rfl g_20 dX9_removeEdge_20 ?_
    refine lv_iconst (v := (nI 1)) hx hb dX9_removeEdge_21 (by decide) ?_
    refine lv_isub hx hb dX9_removeEdge_22 ?_
    obtain ⟨g_23, hM⟩ := gd_some hM
    refine w_iast cx hP hD hS 1 rfl g_23 dX9_removeEdge_23 [ob h_t 9 [.ref h_t_now, .ref h_t_read, .ref h_t_past, .int q_11.1, .ref h_t_text, .int t_letters, .int t_stage, .ref h_t_part, .int t_size, .ref h_t_matrix, .ref h_t_power, .ref h_t_product, .ref h_t_poly, .ref h_t_old, .ref h_t_step, .ref h_t_column, .ref h_t_moved, .ref h_t_traces, .ref h_t_signed, .ref h_t_plus, .ref h_t_minus, .ref h_t_walk], aI g h_t_now 29 (upd a_t_now (nI 1).toNatClampNeg ((a_t_now (nI 1).toNatClampNeg) - (nI 1))), aI g h_t_past 232 q_11.2] rfl (fun H locs hP hD hS => ?_)
    refine lv_iconst (v := (nI 2)) hx hb dX9_removeEdge_24 (by decide) ?_
    refine lv_iconst (v := (nI 3)) hx hb dX9_removeEdge_25 (by decide) ?_
    refine lv_iload_n hx hb dX9_removeEdge_26 rfl (lv_at hl 1 rfl) ?_
    refine lv_imul hx hb dX9_removeEdge_27 ?_
    refine lv_iadd hx hb dX9_removeEdge_28 ?_
    refine lv_topi (fun x_29 ex_29 => ?_)
    have hM := nm_some hM x_29 ex_29
    refine lv_istore_n (lv' := [(2, .int x_29), (0, .ref h_t), (1, .int p1)]) hx hb dX9_removeEdge_29 rfl hl (by decide) rfl (fun ls hl => ?_)
    obtain ⟨r_30, hw, hM⟩ := bd_some hM
    obtain ⟨n, hn⟩ := wh_some hw
    clear hw
    have hE_30_0 : ∀ (H : Heap) (locs : List Loc) (ls : Array Slot), va_P (gD g) vwCl [ob h_t 9 [.ref h_t_now, .ref h_t_read, .ref h_t_past, .int q_11.1, .ref h_t_text, .int t_letters, .int t_stage, .ref h_t_part, .int t_size, .ref h_t_matrix, .ref h_t_power, .ref h_t_product, .ref h_t_poly, .ref h_t_old, .ref h_t_step, .ref h_t_column, .ref h_t_moved, .ref h_t_traces, .ref h_t_signed, .ref h_t_plus, .ref h_t_minus, .ref h_t_walk], aI g h_t_now 29 r_30, aI g h_t_past 232 q_11.2] H → va_D A [ob h_t 9 [.ref h_t_now, .ref h_t_read, .ref h_t_past, .int q_11.1, .ref h_t_text, .int t_letters, .int t_stage, .ref h_t_part, .int t_size, .ref h_t_matrix, .ref h_t_power, .ref h_t_product, .ref h_t_poly, .ref h_t_old, .ref h_t_step, .ref h_t_column, .ref h_t_moved, .ref h_t_traces, .ref h_t_signed, .ref h_t_plus, .ref h_t_minus, .ref h_t_walk], aI g h_t_now 29 r_30, aI g h_t_past 232 q_11.2] → va_S A s.heap H locs → lv_has ls 3 [(0, .ref h_t)] → W p l e (rmv 2 43) s m args below meth c H locs 0 0 Q (F0 m 64 ls []) := by
      intro H locs ls hP hD hS hl
      refine lv_aload_n hx hb dX9_removeEdge_64 rfl (lv_at hl 0 rfl) ?_
      refine w_get cx hP 0 9 0 rfl rfl (by decide) m_644 rfl rfl dX9_removeEdge_65 ?_
      refine lv_iconst (v := (nI 1)) hx hb dX9_removeEdge_68 (by decide) ?_
      obtain ⟨g_69, hM⟩ := gd_some hM
      refine w_iald cx hP 1 rfl g_69 dX9_removeEdge_69 ?_
      obtain rfl := Option.some.inj hM
      exact hfin 70 _ _ _ dX9_removeEdge_70 hP hD hS
    clear hM
    have hL_30 : ∀ (n : Nat) (z_30 : Int32 × (Nat → Int32)), it b_X9_removeEdge_30 n z_30 = some r_30 → ∀ (H : Heap) (locs : List Loc) (ls : Array Slot), va_P (gD g) vwCl [ob h_t 9 [.ref h_t_now, .ref h_t_read, .ref h_t_past, .int q_11.1, .ref h_t_text, .int t_letters, .int t_stage, .ref h_t_part, .int t_size, .ref h_t_matrix, .ref h_t_power, .ref h_t_product, .ref h_t_poly, .ref h_t_old, .ref h_t_step, .ref h_t_column, .ref h_t_moved, .ref h_t_traces, .ref h_t_signed, .ref h_t_plus, .ref h_t_minus, .ref h_t_walk], aI g h_t_now 29 z_30.2, aI g h_t_past 232 q_11.2] H → va_D A [ob h_t 9 [.ref h_t_now, .ref h_t_read, .ref h_t_past, .int q_11.1, .ref h_t_text, .int t_letters, .int t_stage, .ref h_t_part, .int t_size, .ref h_t_matrix, .ref h_t_power, .ref h_t_product, .ref h_t_poly, .ref h_t_old, .ref h_t_step, .ref h_t_column, .ref h_t_moved, .ref h_t_traces, .ref h_t_signed, .ref h_t_plus, .ref h_t_minus, .ref h_t_walk], aI g h_t_now 29 z_30.2, aI g h_t_past 232 q_11.2] → va_S A s.heap H locs → lv_has ls 3 [(2, .int z_30.1), (0, .ref h_t)] → W p l e (rmv 2 43) s m args below meth c H locs 0 0 Q (F0 m 30 ls []) := by
      intro n
      induction n with
      | zero => intro z_30 hn; exact (it_zero hn).elim
      | succ n ih =>
        intro z_30 hn H locs ls hP hD hS hl
        obtain ⟨x, hM, hX⟩ := it_succ hn
        clear hn
        refine lv_iload_n hx hb dX9_removeEdge_30 rfl (lv_at hl 0 rfl) ?_
        refine lv_iconst (v := (nI 2)) hx hb dX9_removeEdge_31 (by decide) ?_
        refine lv_iconst (v := (nI 3)) hx hb dX9_removeEdge_32 (by decide) ?_
        refine lv_aload_n hx hb dX9_removeEdge_33 rfl (lv_at hl 1 rfl) ?_
        refine w_get cx hP 0 9 0 rfl rfl (by decide) m_644 rfl rfl dX9_removeEdge_34 ?_
        refine lv_iconst (v := (nI 1)) hx hb dX9_removeEdge_37 (by decide) ?_
        obtain ⟨g_38, hM⟩ := gd_some hM
        refine w_iald cx hP 1 rfl g_38 dX9_removeEdge_38 ?_
        refine lv_imul hx hb dX9_removeEdge_39 ?_
        refine lv_iadd hx hb dX9_removeEdge_40 ?_
        refine lv_icmp_ge (tgt := 64) hx hb dX9_removeEdge_41 (by decide) (fun c_41 => ?_) (fun c_41 => ?_)
        · have hM := if_t hM c_41
          obtain rfl := Option.some.inj hM
          obtain rfl : _ = r_30 := hX
          exact hE_30_0 _ _ _ hP hD hS (lv_sub hl [1] rfl)
        · have hM := if_f hM c_41
          refine lv_aload_n hx hb dX9_removeEdge_44 rfl (lv_at hl 1 rfl) ?_
          refine w_get cx hP 0 9 0 rfl rfl (by decide) m_644 rfl rfl dX9_removeEdge_45 ?_
          refine lv_iload_n hx hb dX9_removeEdge_48 rfl (lv_at hl 0 rfl) ?_
          refine lv_aload_n hx hb dX9_removeEdge_49 rfl (lv_at hl 1 rfl) ?_
          refine w_get cx hP 0 9 0 rfl rfl (by decide) m_644 rfl rfl dX9_removeEdge_50 ?_
          refine lv_iload_n hx hb dX9_removeEdge_53 rfl (lv_at hl 0 rfl) ?_
          refine lv_iconst (v := (nI 3)) hx hb dX9_removeEdge_54 (by decide) ?_
          refine lv_iadd hx hb dX9_removeEdge_55 ?_
          obtain ⟨g_56, hM⟩ := gd_some hM
          refine w_iald cx hP 1 rfl g_56 dX9_removeEdge_56 ?_
          obtain ⟨g_57, hM⟩ := gd_some hM
          refine w_iast cx hP hD hS 1 rfl g_57 dX9_removeEdge_57 [ob h_t 9 [.ref h_t_now, .ref h_t_read, .ref h_t_past, .int q_11.1, .ref h_t_text, .int t_letters, .int t_stage, .ref h_t_part, .int t_size, .ref h_t_matrix, .ref h_t_power, .ref h_t_product, .ref h_t_poly, .ref h_t_old, .ref h_t_step, .ref h_t_column, .ref h_t_moved, .ref h_t_traces, .ref h_t_signed, .ref h_t_plus, .ref h_t_minus, .ref h_t_walk], aI g h_t_now 29 (upd z_30.2 z_30.1.toNatClampNeg (z_30.2 (z_30.1 + (nI 3)).toNatClampNeg)), aI g h_t_past 232 q_11.2] rfl (fun H locs hP hD hS => ?_)
          refine lv_iinc (v := z_30.1 + (nI 1)) (lv' := [(2, .int (z_30.1 + (nI 1))), (0, .ref h_t)]) hx hb dX9_removeEdge_58 hl (k := 0) rfl (congrArg (fun q => z_30.1 + q) (show Int32.ofInt (1) = (nI 1) by decide)) (by decide) rfl (fun ls hl => ?_)
          refine lv_goto (tgt := 30) hx hb dX9_removeEdge_61 (by decide) ?_
          obtain rfl := Option.some.inj hM
          exact ih _ hX _ _ _ hP hD hS (lv_sub hl [0, 1] rfl)
    exact hL_30 n _ hn _ _ _ hP hD hS (lv_sub hl [0, 1] rfl)
  · have hM := if_t hM c_5
    refine lv_iconst (v := (nI 4294967295)) hx hb dX9_removeEdge_8 (by decide) ?_
    obtain rfl := Option.some.inj hM
    exact hfin 9 _ _ _ dX9_removeEdge_9 hP hD hS
noncomputable def f_X9_flipSign (p1 : Int32) (t_saved : Int32) (t_letters : Int32) (t_stage : Int32) (t_size : Int32) (a_t_now : Nat → Int32) (a_t_past : Nat → Int32) : Option (Int32 × Int32 × (Nat → Int32) × (Nat → Int32)) :=
  bd (f_X9_isEdge p1 t_saved t_letters t_stage t_size a_t_now) (fun (q_2 : Int32) => if q_2 = 0 then some ((nI 0), t_saved, a_t_now, a_t_past) else bd (f_X9_save t_saved t_letters t_stage t_size a_t_now a_t_past) (fun (q_11 : Int32 × (Nat → Int32)) => nm (((nI 2) + ((nI 3) * p1)) + (nI 2)) (fun (x_21 : Int32) => gd (inb x_21 29) (gd (inb x_21 29) (gd (inb x_21 29) (some ((upd a_t_now x_21.toNatClampNeg (-(a_t_now x_21.toNatClampNeg))) x_21.toNatClampNeg, q_11.1, upd a_t_now x_21.toNatClampNeg (-(a_t_now x_21.toNatClampNeg)), q_11.2)))))))
theorem yq_X9_flipSign : yq yX9_flipSign 1 := by unfold yq; decide +kernel
set_option maxHeartbeats 4000000 in
set_option maxRecDepth 100000 in
theorem c_X9_flipSign (g : GG) (l : Launch) (h_t : Nat) (h_t_now : Nat) (h_t_read : Nat) (h_t_past : Nat) (h_t_text : Nat) (h_t_part : Nat) (h_t_matrix : Nat) (h_t_power : Nat) (h_t_product : Nat) (h_t_poly : Nat) (h_t_old : Nat) (h_t_step : Nat) (h_t_column : Nat) (h_t_moved : Nat) (h_t_traces : Nat) (h_t_signed : Nat) (h_t_plus : Nat) (h_t_minus : Nat) (h_t_walk : Nat) (p1 : Int32) (t_saved : Int32) (t_letters : Int32) (t_stage : Int32) (t_size : Int32) (a_t_now : Nat → Int32) (a_t_past : Nat → Int32) {R : Int32 × Int32 × (Nat → Int32) × (Nat → Int32)} (hM : f_X9_flipSign p1 t_saved t_letters t_stage t_size a_t_now a_t_past = some R) : CT g l yX9_flipSign cX9_flipSign 3 (some .int) 2 43 [.ref h_t, .int p1] [ob h_t 9 [.ref h_t_now, .ref h_t_read, .ref h_t_past, .int t_saved, .ref h_t_text, .int t_letters, .int t_stage, .ref h_t_part, .int t_size, .ref h_t_matrix, .ref h_t_power, .ref h_t_product, .ref h_t_poly, .ref h_t_old, .ref h_t_step, .ref h_t_column, .ref h_t_moved, .ref h_t_traces, .ref h_t_signed, .ref h_t_plus, .ref h_t_minus, .ref h_t_walk], aI g h_t_now 29 a_t_now, aI g h_t_past 232 a_t_past] [ob h_t 9 [.ref h_t_now, .ref h_t_read, .ref h_t_past, .int R.2.1, .ref h_t_text, .int t_letters, .int t_stage, .ref h_t_part, .int t_size, .ref h_t_matrix, .ref h_t_power, .ref h_t_product, .ref h_t_poly, .ref h_t_old, .ref h_t_step, .ref h_t_column, .ref h_t_moved, .ref h_t_traces, .ref h_t_signed, .ref h_t_plus, .ref h_t_minus, .ref h_t_walk], aI g h_t_now 29 R.2.2.1, aI g h_t_past 232 R.2.2.2] (some (.int R.1)) := by
  refine ct_i (by decide +kernel) (Nat.le_of_ble_eq_true rfl) ?_
  intro p e s m args below meth c Q A ls cx hP hD hA hl hfin
  obtain ⟨hx, hb, hml, hown, hts, hK⟩ := id cx
  have hl : lv_has ls 3 [(0, .ref h_t), (1, .int p1)] := hl
  have hS : va_S A s.heap s.heap [] := va_S.rf
  refine lv_aload_n hx hb dX9_flipSign_0 rfl (lv_at hl 0 rfl) ?_
  refine lv_iload_n hx hb dX9_flipSign_1 rfl (lv_at hl 1 rfl) ?_
  obtain ⟨q_2, hc_2, hM⟩ := bd_some hM
  refine w_callV cx hP hD hS hA (c_X9_isEdge g l h_t h_t_now h_t_read h_t_past h_t_text h_t_part h_t_matrix h_t_power h_t_product h_t_poly h_t_old h_t_step h_t_column h_t_moved h_t_traces h_t_signed h_t_plus h_t_minus h_t_walk p1 t_saved t_letters t_stage t_size a_t_now hc_2) [0, 1] rfl (by decide) rfl [ob h_t 9 [.ref h_t_now, .ref h_t_read, .ref h_t_past, .int t_saved, .ref h_t_text, .int t_letters, .int t_stage, .ref h_t_part, .int t_size, .ref h_t_matrix, .ref h_t_power, .ref h_t_product, .ref h_t_poly, .ref h_t_old, .ref h_t_step, .ref h_t_column, .ref h_t_moved, .ref h_t_traces, .ref h_t_signed, .ref h_t_plus, .ref h_t_minus, .ref h_t_walk], aI g h_t_now 29 a_t_now, aI g h_t_past 232 a_t_past] rfl 0 9 rfl rfl yq_X9_isEdge rfl m_734 m_736 m_18 m_51 m_737 ⟨Nat.le_of_ble_eq_true rfl, Nat.le_of_ble_eq_true rfl⟩ rfl rfl hl.1 (Nat.le_of_ble_eq_true rfl) dX9_flipSign_2 ⟨Nat.le_refl 0, Nat.le_refl 0⟩ rfl (fun H locs hP hD hS => ?_)
  refine lv_if_ne (tgt := 10) hx hb dX9_flipSign_5 (by decide) (fun c_5 => ?_) (fun c_5 => ?_)
  · have hM := if_f hM c_5
    refine lv_aload_n hx hb dX9_flipSign_10 rfl (lv_at hl 0 rfl) ?_
    obtain ⟨q_11, hc_11, hM⟩ := bd_some hM
    refine w_callV cx hP hD hS hA (c_X9_save g l h_t h_t_now h_t_read h_t_past h_t_text h_t_part h_t_matrix h_t_power h_t_product h_t_poly h_t_old h_t_step h_t_column h_t_moved h_t_traces h_t_signed h_t_plus h_t_minus h_t_walk t_saved t_letters t_stage t_size a_t_now a_t_past hc_11) [0, 1, 2] rfl (by decide) rfl [ob h_t 9 [.ref h_t_now, .ref h_t_read, .ref h_t_past, .int q_11.1, .ref h_t_text, .int t_letters, .int t_stage, .ref h_t_part, .int t_size, .ref h_t_matrix, .ref h_t_power, .ref h_t_product, .ref h_t_poly, .ref h_t_old, .ref h_t_step, .ref h_t_column, .ref h_t_moved, .ref h_t_traces, .ref h_t_signed, .ref h_t_plus, .ref h_t_minus, .ref h_t_walk], aI g h_t_now 29 a_t_now, aI g h_t_past 232 q_11.2] rfl 0 9 rfl rfl yq_X9_save rfl m_718 m_720 m_16 m_51 m_721 ⟨Nat.le_of_ble_eq_true rfl, Nat.le_of_ble_eq_true rfl⟩ rfl rfl hl.1 (Nat.le_of_ble_eq_true rfl) dX9_flipSign_11 ⟨Nat.le_refl 0, Nat.le_refl 0⟩ rfl (fun H locs hP hD hS => ?_)
    refine lv_iconst (v := (nI 2)) hx hb dX9_flipSign_14 (by decide) ?_
    refine lv_iconst (v := (nI 3)) hx hb dX9_flipSign_15 (by decide) ?_
    refine lv_iload_n hx hb dX9_flipSign_16 rfl (lv_at hl 1 rfl) ?_
    refine lv_imul hx hb dX9_flipSign_17 ?_
    refine lv_iadd hx hb dX9_flipSign_18 ?_
    refine lv_iconst (v := (nI 2)) hx hb dX9_flipSign_19 (by decide) ?_
    refine lv_iadd hx hb dX9_flipSign_20 ?_
    refine lv_topi (fun x_21 ex_21 => ?_)
    have hM := nm_some hM x_21 ex_21
    refine lv_istore_n (lv' := [(2, .int x_21), (0, .ref h_t), (1, .int p1)]) hx hb dX9_flipSign_21 rfl hl (by decide) rfl (fun ls hl => ?_)
    refine lv_aload_n hx hb dX9_flipSign_22 rfl (lv_at hl 1 rfl) ?_
    refine w_get cx hP 0 9 0 rfl rfl (by decide) m_644 rfl rfl dX9_flipSign_23 ?_
    refine lv_iload_n hx hb dX9_flipSign_26 rfl (lv_at hl 0 rfl) ?_
    refine lv_aload_n hx hb dX9_flipSign_27 rfl (lv_at hl 1 rfl) ?_
    refine w_get cx hP 0 9 0 rfl rfl (by decide) m_644 rfl rfl dX9_flipSign_28 ?_
    refine lv_iload_n hx hb dX9_flipSign_31 rfl (lv_at hl 0 rfl) ?_
    obtain ⟨g_32, hM⟩ := gd_some hM
    refine w_iald cx hP 1 rfl g_32 dX9_flipSign_32 ?_
    refine lv_ineg hx hb dX9_flipSign_33 ?_
    obtain ⟨g_34, hM⟩ := gd_some hM
    refine w_iast cx hP hD hS 1 rfl g_34 dX9_flipSign_34 [ob h_t 9 [.ref h_t_now, .ref h_t_read, .ref h_t_past, .int q_11.1, .ref h_t_text, .int t_letters, .int t_stage, .ref h_t_part, .int t_size, .ref h_t_matrix, .ref h_t_power, .ref h_t_product, .ref h_t_poly, .ref h_t_old, .ref h_t_step, .ref h_t_column, .ref h_t_moved, .ref h_t_traces, .ref h_t_signed, .ref h_t_plus, .ref h_t_minus, .ref h_t_walk], aI g h_t_now 29 (upd a_t_now x_21.toNatClampNeg (-(a_t_now x_21.toNatClampNeg))), aI g h_t_past 232 q_11.2] rfl (fun H locs hP hD hS => ?_)
    refine lv_aload_n hx hb dX9_flipSign_35 rfl (lv_at hl 1 rfl) ?_
    refine w_get cx hP 0 9 0 rfl rfl (by decide) m_644 rfl rfl dX9_flipSign_36 ?_
    refine lv_iload_n hx hb dX9_flipSign_39 rfl (lv_at hl 0 rfl) ?_
    obtain ⟨g_40, hM⟩ := gd_some hM
    refine w_iald cx hP 1 rfl g_40 dX9_flipSign_40 ?_
    obtain rfl := Option.some.inj hM
    exact hfin 41 _ _ _ dX9_flipSign_41 hP hD hS
  · have hM := if_t hM c_5
    refine lv_iconst (v := (nI 0)) hx hb dX9_flipSign_8 (by decide) ?_
    obtain rfl := Option.some.inj hM
    exact hfin 9 _ _ _ dX9_flipSign_9 hP hD hS
noncomputable def f_X9_appendCharacter (p1 : Int32) (t_saved : Int32) (t_letters : Int32) (t_stage : Int32) (t_size : Int32) (a_t_text : Nat → Int32) : Option (Int32 × Int32 × (Nat → Int32)) :=
  bd (f_X9_in p1 (nI 0) (nI 255)) (fun (q_5 : Int32) => if q_5 = 0 then some ((nI 4294967295), t_letters, a_t_text) else if t_letters = (nI 60) then some ((nI 4294967293), t_letters, a_t_text) else gd (inb t_letters 60) (some ((t_letters + (nI 1)), (t_letters + (nI 1)), upd a_t_text t_letters.toNatClampNeg p1)))
theorem yq_X9_appendCharacter : yq yX9_appendCharacter 1 := by unfold yq; decide +kernel
set_option maxHeartbeats 4000000 in
set_option maxRecDepth 100000 in
theorem c_X9_appendCharacter (g : GG) (l : Launch) (h_t : Nat) (h_t_now : Nat) (h_t_read : Nat) (h_t_past : Nat) (h_t_text : Nat) (h_t_part : Nat) (h_t_matrix : Nat) (h_t_power : Nat) (h_t_product : Nat) (h_t_poly : Nat) (h_t_old : Nat) (h_t_step : Nat) (h_t_column : Nat) (h_t_moved : Nat) (h_t_traces : Nat) (h_t_signed : Nat) (h_t_plus : Nat) (h_t_minus : Nat) (h_t_walk : Nat) (p1 : Int32) (t_saved : Int32) (t_letters : Int32) (t_stage : Int32) (t_size : Int32) (a_t_text : Nat → Int32) {R : Int32 × Int32 × (Nat → Int32)} (hM : f_X9_appendCharacter p1 t_saved t_letters t_stage t_size a_t_text = some R) : CT g l yX9_appendCharacter cX9_appendCharacter 2 (some .int) 1 22 [.ref h_t, .int p1] [ob h_t 9 [.ref h_t_now, .ref h_t_read, .ref h_t_past, .int t_saved, .ref h_t_text, .int t_letters, .int t_stage, .ref h_t_part, .int t_size, .ref h_t_matrix, .ref h_t_power, .ref h_t_product, .ref h_t_poly, .ref h_t_old, .ref h_t_step, .ref h_t_column, .ref h_t_moved, .ref h_t_traces, .ref h_t_signed, .ref h_t_plus, .ref h_t_minus, .ref h_t_walk], aI g h_t_text 60 a_t_text] [ob h_t 9 [.ref h_t_now, .ref h_t_read, .ref h_t_past, .int t_saved, .ref h_t_text, .int R.2.1, .int t_stage, .ref h_t_part, .int t_size, .ref h_t_matrix, .ref h_t_power, .ref h_t_product, .ref h_t_poly, .ref h_t_old, .ref h_t_step, .ref h_t_column, .ref h_t_moved, .ref h_t_traces, .ref h_t_signed, .ref h_t_plus, .ref h_t_minus, .ref h_t_walk], aI g h_t_text 60 R.2.2] (some (.int R.1)) := by
  refine ct_i (by decide +kernel) (Nat.le_of_ble_eq_true rfl) ?_
  intro p e s m args below meth c Q A ls cx hP hD hA hl hfin
  obtain ⟨hx, hb, hml, hown, hts, hK⟩ := id cx
  have hl : lv_has ls 2 [(0, .ref h_t), (1, .int p1)] := hl
  have hS : va_S A s.heap s.heap [] := va_S.rf
  refine lv_iload_n hx hb dX9_appendCharacter_0 rfl (lv_at hl 1 rfl) ?_
  refine lv_iconst (v := (nI 0)) hx hb dX9_appendCharacter_1 (by decide) ?_
  refine lv_sipush (v := (nI 255)) hx hb dX9_appendCharacter_2 (by decide) ?_
  obtain ⟨q_5, hc_5, hM⟩ := bd_some hM
  refine w_callS cx hP hD hS hA (c_X9_in g l p1 (nI 0) (nI 255) hc_5) [] rfl (by decide) rfl [ob h_t 9 [.ref h_t_now, .ref h_t_read, .ref h_t_past, .int t_saved, .ref h_t_text, .int t_letters, .int t_stage, .ref h_t_part, .int t_size, .ref h_t_matrix, .ref h_t_power, .ref h_t_product, .ref h_t_poly, .ref h_t_old, .ref h_t_step, .ref h_t_column, .ref h_t_moved, .ref h_t_traces, .ref h_t_signed, .ref h_t_plus, .ref h_t_minus, .ref h_t_walk], aI g h_t_text 60 a_t_text] rfl yq_X9_in m_715 m_716 m_51 m_717 ⟨Nat.le_of_ble_eq_true rfl, Nat.le_of_ble_eq_true rfl⟩ rfl rfl hl.1 (Nat.le_of_ble_eq_true rfl) dX9_appendCharacter_5 ⟨Nat.le_refl 0, Nat.le_refl 0⟩ rfl (fun H locs hP hD hS => ?_)
  refine lv_if_ne (tgt := 13) hx hb dX9_appendCharacter_8 (by decide) (fun c_8 => ?_) (fun c_8 => ?_)
  · have hM := if_f hM c_8
    refine lv_aload_n hx hb dX9_appendCharacter_13 rfl (lv_at hl 0 rfl) ?_
    refine w_get cx hP 0 9 5 rfl rfl (by decide) m_649 rfl rfl dX9_appendCharacter_14 ?_
    refine lv_bipush (v := (nI 60)) hx hb dX9_appendCharacter_17 (by decide) ?_
    refine lv_icmp_ne (tgt := 25) hx hb dX9_appendCharacter_19 (by decide) (fun c_19 => ?_) (fun c_19 => ?_)
    · have hM := if_f hM c_19
      refine lv_aload_n hx hb dX9_appendCharacter_25 rfl (lv_at hl 0 rfl) ?_
      refine w_get cx hP 0 9 4 rfl rfl (by decide) m_648 rfl rfl dX9_appendCharacter_26 ?_
      refine lv_aload_n hx hb dX9_appendCharacter_29 rfl (lv_at hl 0 rfl) ?_
      refine w_get cx hP 0 9 5 rfl rfl (by decide) m_649 rfl rfl dX9_appendCharacter_30 ?_
      refine lv_iload_n hx hb dX9_appendCharacter_33 rfl (lv_at hl 1 rfl) ?_
      obtain ⟨g_34, hM⟩ := gd_some hM
      refine w_iast cx hP hD hS 1 rfl g_34 dX9_appendCharacter_34 [ob h_t 9 [.ref h_t_now, .ref h_t_read, .ref h_t_past, .int t_saved, .ref h_t_text, .int t_letters, .int t_stage, .ref h_t_part, .int t_size, .ref h_t_matrix, .ref h_t_power, .ref h_t_product, .ref h_t_poly, .ref h_t_old, .ref h_t_step, .ref h_t_column, .ref h_t_moved, .ref h_t_traces, .ref h_t_signed, .ref h_t_plus, .ref h_t_minus, .ref h_t_walk], aI g h_t_text 60 (upd a_t_text t_letters.toNatClampNeg p1)] rfl (fun H locs hP hD hS => ?_)
      refine lv_aload_n hx hb dX9_appendCharacter_35 rfl (lv_at hl 0 rfl) ?_
      refine lv_dup hx hb dX9_appendCharacter_36 rfl ?_
      refine w_get cx hP 0 9 5 rfl rfl (by decide) m_649 rfl rfl dX9_appendCharacter_37 ?_
      refine lv_iconst (v := (nI 1)) hx hb dX9_appendCharacter_40 (by decide) ?_
      refine lv_iadd hx hb dX9_appendCharacter_41 ?_
      refine w_put cx hP hD hS 0 9 5 rfl rfl (by decide) m_649 rfl rfl rfl (Nat.le_of_ble_eq_true rfl) dX9_appendCharacter_42 [ob h_t 9 [.ref h_t_now, .ref h_t_read, .ref h_t_past, .int t_saved, .ref h_t_text, .int (t_letters + (nI 1)), .int t_stage, .ref h_t_part, .int t_size, .ref h_t_matrix, .ref h_t_power, .ref h_t_product, .ref h_t_poly, .ref h_t_old, .ref h_t_step, .ref h_t_column, .ref h_t_moved, .ref h_t_traces, .ref h_t_signed, .ref h_t_plus, .ref h_t_minus, .ref h_t_walk], aI g h_t_text 60 (upd a_t_text t_letters.toNatClampNeg p1)] rfl (fun H locs hP hD hS => ?_)
      refine lv_aload_n hx hb dX9_appendCharacter_45 rfl (lv_at hl 0 rfl) ?_
      refine w_get cx hP 0 9 5 rfl rfl (by decide) m_649 rfl rfl dX9_appendCharacter_46 ?_
      obtain rfl := Option.some.inj hM
      exact hfin 49 _ _ _ dX9_appendCharacter_49 hP hD hS
    · have hM := if_t hM c_19
      refine lv_bipush (v := (nI 4294967293)) hx hb dX9_appendCharacter_22 (by decide) ?_
      obtain rfl := Option.some.inj hM
      exact hfin 24 _ _ _ dX9_appendCharacter_24 hP hD hS
  · have hM := if_t hM c_8
    refine lv_iconst (v := (nI 4294967295)) hx hb dX9_appendCharacter_11 (by decide) ?_
    obtain rfl := Option.some.inj hM
    exact hfin 12 _ _ _ dX9_appendCharacter_12 hP hD hS
noncomputable def f_X9_clearText (t_saved : Int32) (t_letters : Int32) (t_stage : Int32) (t_size : Int32) : Option (Int32 × Int32) :=
  some (t_letters, (nI 0))
theorem yq_X9_clearText : yq yX9_clearText 0 := by unfold yq; decide +kernel
set_option maxHeartbeats 4000000 in
set_option maxRecDepth 100000 in
theorem c_X9_clearText (g : GG) (l : Launch) (h_t : Nat) (h_t_now : Nat) (h_t_read : Nat) (h_t_past : Nat) (h_t_text : Nat) (h_t_part : Nat) (h_t_matrix : Nat) (h_t_power : Nat) (h_t_product : Nat) (h_t_poly : Nat) (h_t_old : Nat) (h_t_step : Nat) (h_t_column : Nat) (h_t_moved : Nat) (h_t_traces : Nat) (h_t_signed : Nat) (h_t_plus : Nat) (h_t_minus : Nat) (h_t_walk : Nat) (t_saved : Int32) (t_letters : Int32) (t_stage : Int32) (t_size : Int32) {R : Int32 × Int32} (hM : f_X9_clearText t_saved t_letters t_stage t_size = some R) : CT g l yX9_clearText cX9_clearText 2 (some .int) 0 0 [.ref h_t] [ob h_t 9 [.ref h_t_now, .ref h_t_read, .ref h_t_past, .int t_saved, .ref h_t_text, .int t_letters, .int t_stage, .ref h_t_part, .int t_size, .ref h_t_matrix, .ref h_t_power, .ref h_t_product, .ref h_t_poly, .ref h_t_old, .ref h_t_step, .ref h_t_column, .ref h_t_moved, .ref h_t_traces, .ref h_t_signed, .ref h_t_plus, .ref h_t_minus, .ref h_t_walk]] [ob h_t 9 [.ref h_t_now, .ref h_t_read, .ref h_t_past, .int t_saved, .ref h_t_text, .int R.2, .int t_stage, .ref h_t_part, .int t_size, .ref h_t_matrix, .ref h_t_power, .ref h_t_product, .ref h_t_poly, .ref h_t_old, .ref h_t_step, .ref h_t_column, .ref h_t_moved, .ref h_t_traces, .ref h_t_signed, .ref h_t_plus, .ref h_t_minus, .ref h_t_walk]] (some (.int R.1)) := by
  refine ct_i (by decide +kernel) (Nat.le_of_ble_eq_true rfl) ?_
  intro p e s m args below meth c Q A ls cx hP hD hA hl hfin
  obtain ⟨hx, hb, hml, hown, hts, hK⟩ := id cx
  have hl : lv_has ls 2 [(0, .ref h_t)] := hl
  have hS : va_S A s.heap s.heap [] := va_S.rf
  refine lv_aload_n hx hb dX9_clearText_0 rfl (lv_at hl 0 rfl) ?_
  refine w_get cx hP 0 9 5 rfl rfl (by decide) m_649 rfl rfl dX9_clearText_1 ?_
  refine lv_istore_n (lv' := [(1, .int t_letters), (0, .ref h_t)]) hx hb dX9_clearText_4 rfl hl (by decide) rfl (fun ls hl => ?_)
  refine lv_aload_n hx hb dX9_clearText_5 rfl (lv_at hl 1 rfl) ?_
  refine lv_iconst (v := (nI 0)) hx hb dX9_clearText_6 (by decide) ?_
  refine w_put cx hP hD hS 0 9 5 rfl rfl (by decide) m_649 rfl rfl rfl (Nat.le_of_ble_eq_true rfl) dX9_clearText_7 [ob h_t 9 [.ref h_t_now, .ref h_t_read, .ref h_t_past, .int t_saved, .ref h_t_text, .int (nI 0), .int t_stage, .ref h_t_part, .int t_size, .ref h_t_matrix, .ref h_t_power, .ref h_t_product, .ref h_t_poly, .ref h_t_old, .ref h_t_step, .ref h_t_column, .ref h_t_moved, .ref h_t_traces, .ref h_t_signed, .ref h_t_plus, .ref h_t_minus, .ref h_t_walk]] rfl (fun H locs hP hD hS => ?_)
  refine lv_iload_n hx hb dX9_clearText_10 rfl (lv_at hl 0 rfl) ?_
  obtain rfl := Option.some.inj hM
  exact hfin 11 _ _ _ dX9_clearText_11 hP hD hS
noncomputable def f_X9_takes (p1 : Int32) (t_saved : Int32) (t_letters : Int32) (t_stage : Int32) (t_size : Int32) (a_t_now : Nat → Int32) (a_t_read : Nat → Int32) : Option (Int32 × (Nat → Int32)) :=
  gd (inb (nI 1) 29) (nm ((nI 2) + ((nI 3) * (a_t_read (nI 1).toNatClampNeg))) (fun (x_10 : Int32) => if t_stage = (nI 0) then gd (inb x_10 29) (gd (inb (nI 1) 29) (if (nI 9) ≤ ((upd a_t_read x_10.toNatClampNeg (p1 - (nI 48))) (nI 1).toNatClampNeg) then some ((nI 0), upd a_t_read x_10.toNatClampNeg (p1 - (nI 48))) else bd (f_X9_isVertex (p1 - (nI 48)) t_saved t_letters t_stage t_size a_t_now) (fun (q_66 : Int32) => if q_66 = 0 then some ((nI 0), upd a_t_read x_10.toNatClampNeg (p1 - (nI 48))) else some ((nI 1), upd a_t_read x_10.toNatClampNeg (p1 - (nI 48)))))) else if t_stage = (nI 1) then bd (if p1 = (nI 45) then some (nI 1) else some (nI 4294967295)) (fun (j_88 : Int32) => gd (inb (x_10 + (nI 2)) 29) (if p1 = (nI 45) then some ((nI 1), upd a_t_read (x_10 + (nI 2)).toNatClampNeg j_88) else if p1 = (nI 126) then some ((nI 1), upd a_t_read (x_10 + (nI 2)).toNatClampNeg j_88) else some ((nI 0), upd a_t_read (x_10 + (nI 2)).toNatClampNeg j_88))) else if t_stage = (nI 2) then gd (inb (x_10 + (nI 1)) 29) (bd (f_X9_isVertex (p1 - (nI 48)) t_saved t_letters t_stage t_size a_t_now) (fun (q_132 : Int32) => if q_132 = 0 then some ((nI 0), upd a_t_read (x_10 + (nI 1)).toNatClampNeg (p1 - (nI 48))) else gd (inb x_10 29) (if ((upd a_t_read (x_10 + (nI 1)).toNatClampNeg (p1 - (nI 48))) x_10.toNatClampNeg) = (p1 - (nI 48)) then some ((nI 0), upd a_t_read (x_10 + (nI 1)).toNatClampNeg (p1 - (nI 48))) else some ((nI 1), upd a_t_read (x_10 + (nI 1)).toNatClampNeg (p1 - (nI 48)))))) else if p1 = (nI 59) then some ((nI 1), a_t_read) else some ((nI 0), a_t_read)))
theorem yq_X9_takes : yq yX9_takes 1 := by unfold yq; decide +kernel
set_option maxHeartbeats 4000000 in
set_option maxRecDepth 100000 in
theorem c_X9_takes (g : GG) (l : Launch) (h_t : Nat) (h_t_now : Nat) (h_t_read : Nat) (h_t_past : Nat) (h_t_text : Nat) (h_t_part : Nat) (h_t_matrix : Nat) (h_t_power : Nat) (h_t_product : Nat) (h_t_poly : Nat) (h_t_old : Nat) (h_t_step : Nat) (h_t_column : Nat) (h_t_moved : Nat) (h_t_traces : Nat) (h_t_signed : Nat) (h_t_plus : Nat) (h_t_minus : Nat) (h_t_walk : Nat) (p1 : Int32) (t_saved : Int32) (t_letters : Int32) (t_stage : Int32) (t_size : Int32) (a_t_now : Nat → Int32) (a_t_read : Nat → Int32) {R : Int32 × (Nat → Int32)} (hM : f_X9_takes p1 t_saved t_letters t_stage t_size a_t_now a_t_read = some R) : CT g l yX9_takes cX9_takes 3 (some .boolean) 2 43 [.ref h_t, .int p1] [ob h_t 9 [.ref h_t_now, .ref h_t_read, .ref h_t_past, .int t_saved, .ref h_t_text, .int t_letters, .int t_stage, .ref h_t_part, .int t_size, .ref h_t_matrix, .ref h_t_power, .ref h_t_product, .ref h_t_poly, .ref h_t_old, .ref h_t_step, .ref h_t_column, .ref h_t_moved, .ref h_t_traces, .ref h_t_signed, .ref h_t_plus, .ref h_t_minus, .ref h_t_walk], aI g h_t_now 29 a_t_now, aI g h_t_read 29 a_t_read] [ob h_t 9 [.ref h_t_now, .ref h_t_read, .ref h_t_past, .int t_saved, .ref h_t_text, .int t_letters, .int t_stage, .ref h_t_part, .int t_size, .ref h_t_matrix, .ref h_t_power, .ref h_t_product, .ref h_t_poly, .ref h_t_old, .ref h_t_step, .ref h_t_column, .ref h_t_moved, .ref h_t_traces, .ref h_t_signed, .ref h_t_plus, .ref h_t_minus, .ref h_t_walk], aI g h_t_now 29 a_t_now, aI g h_t_read 29 R.2] (some (.int R.1)) := by
  refine ct_z (by decide +kernel) (Nat.le_of_ble_eq_true rfl) ?_
  intro p e s m args below meth c Q A ls cx hP hD hA hl hfin
  obtain ⟨hx, hb, hml, hown, hts, hK⟩ := id cx
  have hl : lv_has ls 3 [(0, .ref h_t), (1, .int p1)] := hl
  have hS : va_S A s.heap s.heap [] := va_S.rf
  refine lv_iconst (v := (nI 2)) hx hb dX9_takes_0 (by decide) ?_
  refine lv_iconst (v := (nI 3)) hx hb dX9_takes_1 (by decide) ?_
  refine lv_aload_n hx hb dX9_takes_2 rfl (lv_at hl 0 rfl) ?_
  refine w_get cx hP 0 9 1 rfl rfl (by decide) m_645 rfl rfl dX9_takes_3 ?_
  refine lv_iconst (v := (nI 1)) hx hb dX9_takes_6 (by decide) ?_
  obtain ⟨g_7, hM⟩ := gd_some hM
  refine w_iald cx hP 2 rfl g_7 dX9_takes_7 ?_
  refine lv_imul hx hb dX9_takes_8 ?_
  refine lv_iadd hx hb dX9_takes_9 ?_
  refine lv_topi (fun x_10 ex_10 => ?_)
  have hM := nm_some hM x_10 ex_10
  refine lv_istore_n (lv' := [(2, .int x_10), (0, .ref h_t), (1, .int p1)]) hx hb dX9_takes_10 rfl hl (by decide) rfl (fun ls hl => ?_)
  refine lv_aload_n hx hb dX9_takes_11 rfl (lv_at hl 1 rfl) ?_
  refine w_get cx hP 0 9 6 rfl rfl (by decide) m_650 rfl rfl dX9_takes_12 ?_
  by_cases c_15_0 : t_stage = (nI 0)
  · have hM := if_t hM c_15_0
    refine lv_tableIn (x := t_stage) (tgt := 40) hx hb dX9_takes_15 (off := 25) (by rw [c_15_0]; decide) (by rw [c_15_0]; decide) (by rw [c_15_0]; rfl) (by decide) ?_
    refine lv_aload_n hx hb dX9_takes_40 rfl (lv_at hl 1 rfl) ?_
    refine w_get cx hP 0 9 1 rfl rfl (by decide) m_645 rfl rfl dX9_takes_41 ?_
    refine lv_iload_n hx hb dX9_takes_44 rfl (lv_at hl 0 rfl) ?_
    refine lv_iload_n hx hb dX9_takes_45 rfl (lv_at hl 2 rfl) ?_
    refine lv_bipush (v := (nI 48)) hx hb dX9_takes_46 (by decide) ?_
    refine lv_isub hx hb dX9_takes_48 ?_
    obtain ⟨g_49, hM⟩ := gd_some hM
    refine w_iast cx hP hD hS 2 rfl g_49 dX9_takes_49 [ob h_t 9 [.ref h_t_now, .ref h_t_read, .ref h_t_past, .int t_saved, .ref h_t_text, .int t_letters, .int t_stage, .ref h_t_part, .int t_size, .ref h_t_matrix, .ref h_t_power, .ref h_t_product, .ref h_t_poly, .ref h_t_old, .ref h_t_step, .ref h_t_column, .ref h_t_moved, .ref h_t_traces, .ref h_t_signed, .ref h_t_plus, .ref h_t_minus, .ref h_t_walk], aI g h_t_now 29 a_t_now, aI g h_t_read 29 (upd a_t_read x_10.toNatClampNeg (p1 - (nI 48)))] rfl (fun H locs hP hD hS => ?_)
    refine lv_aload_n hx hb dX9_takes_50 rfl (lv_at hl 1 rfl) ?_
    refine w_get cx hP 0 9 1 rfl rfl (by decide) m_645 rfl rfl dX9_takes_51 ?_
    refine lv_iconst (v := (nI 1)) hx hb dX9_takes_54 (by decide) ?_
    obtain ⟨g_55, hM⟩ := gd_some hM
    refine w_iald cx hP 2 rfl g_55 dX9_takes_55 ?_
    refine lv_bipush (v := (nI 9)) hx hb dX9_takes_56 (by decide) ?_
    refine lv_icmp_ge (tgt := 76) hx hb dX9_takes_58 (by decide) (fun c_58 => ?_) (fun c_58 => ?_)
    · have hM := if_t hM c_58
      refine lv_iconst (v := (nI 0)) hx hb dX9_takes_76 (by decide) ?_
      have hz : bq (nI 0) = true := by decide
      obtain rfl := Option.some.inj hM
      exact hfin 77 _ _ _ dX9_takes_77 hz hP hD hS
    · have hM := if_f hM c_58
      refine lv_aload_n hx hb dX9_takes_61 rfl (lv_at hl 1 rfl) ?_
      refine lv_iload_n hx hb dX9_takes_62 rfl (lv_at hl 2 rfl) ?_
      refine lv_bipush (v := (nI 48)) hx hb dX9_takes_63 (by decide) ?_
      refine lv_isub hx hb dX9_takes_65 ?_
      obtain ⟨q_66, hc_66, hM⟩ := bd_some hM
      refine w_callV cx hP hD hS hA (c_X9_isVertex g l h_t h_t_now h_t_read h_t_past h_t_text h_t_part h_t_matrix h_t_power h_t_product h_t_poly h_t_old h_t_step h_t_column h_t_moved h_t_traces h_t_signed h_t_plus h_t_minus h_t_walk (p1 - (nI 48)) t_saved t_letters t_stage t_size a_t_now hc_66) [0, 1] rfl (by decide) rfl [ob h_t 9 [.ref h_t_now, .ref h_t_read, .ref h_t_past, .int t_saved, .ref h_t_text, .int t_letters, .int t_stage, .ref h_t_part, .int t_size, .ref h_t_matrix, .ref h_t_power, .ref h_t_product, .ref h_t_poly, .ref h_t_old, .ref h_t_step, .ref h_t_column, .ref h_t_moved, .ref h_t_traces, .ref h_t_signed, .ref h_t_plus, .ref h_t_minus, .ref h_t_walk], aI g h_t_now 29 a_t_now, aI g h_t_read 29 (upd a_t_read x_10.toNatClampNeg (p1 - (nI 48)))] rfl 0 9 rfl rfl yq_X9_isVertex rfl m_726 m_728 m_17 m_51 m_729 ⟨Nat.le_of_ble_eq_true rfl, Nat.le_of_ble_eq_true rfl⟩ rfl rfl hl.1 (Nat.le_of_ble_eq_true rfl) dX9_takes_66 ⟨Nat.le_refl 0, Nat.le_refl 0⟩ rfl (fun H locs hP hD hS => ?_)
      refine lv_if_eq (tgt := 76) hx hb dX9_takes_69 (by decide) (fun c_69 => ?_) (fun c_69 => ?_)
      · have hM := if_t hM c_69
        refine lv_iconst (v := (nI 0)) hx hb dX9_takes_76 (by decide) ?_
        have hz : bq (nI 0) = true := by decide
        obtain rfl := Option.some.inj hM
        exact hfin 77 _ _ _ dX9_takes_77 hz hP hD hS
      · have hM := if_f hM c_69
        refine lv_iconst (v := (nI 1)) hx hb dX9_takes_72 (by decide) ?_
        refine lv_goto (tgt := 77) hx hb dX9_takes_73 (by decide) ?_
        have hz : bq (nI 1) = true := by decide
        obtain rfl := Option.some.inj hM
        exact hfin 77 _ _ _ dX9_takes_77 hz hP hD hS
  have hM := if_f hM c_15_0
  by_cases c_15_1 : t_stage = (nI 1)
  · have hM := if_t hM c_15_1
    refine lv_tableIn (x := t_stage) (tgt := 78) hx hb dX9_takes_15 (off := 63) (by rw [c_15_1]; decide) (by rw [c_15_1]; decide) (by rw [c_15_1]; rfl) (by decide) ?_
    refine lv_aload_n hx hb dX9_takes_78 rfl (lv_at hl 1 rfl) ?_
    refine w_get cx hP 0 9 1 rfl rfl (by decide) m_645 rfl rfl dX9_takes_79 ?_
    refine lv_iload_n hx hb dX9_takes_82 rfl (lv_at hl 0 rfl) ?_
    refine lv_iconst (v := (nI 2)) hx hb dX9_takes_83 (by decide) ?_
    refine lv_iadd hx hb dX9_takes_84 ?_
    refine lv_iload_n hx hb dX9_takes_85 rfl (lv_at hl 2 rfl) ?_
    refine lv_bipush (v := (nI 45)) hx hb dX9_takes_86 (by decide) ?_
    obtain ⟨j_88, hB, hM⟩ := bd_some hM
    have hJ_88 : ∀ (H : Heap) (locs : List Loc) (ls : Array Slot), va_P (gD g) vwCl [ob h_t 9 [.ref h_t_now, .ref h_t_read, .ref h_t_past, .int t_saved, .ref h_t_text, .int t_letters, .int t_stage, .ref h_t_part, .int t_size, .ref h_t_matrix, .ref h_t_power, .ref h_t_product, .ref h_t_poly, .ref h_t_old, .ref h_t_step, .ref h_t_column, .ref h_t_moved, .ref h_t_traces, .ref h_t_signed, .ref h_t_plus, .ref h_t_minus, .ref h_t_walk], aI g h_t_now 29 a_t_now, aI g h_t_read 29 a_t_read] H → va_D A [ob h_t 9 [.ref h_t_now, .ref h_t_read, .ref h_t_past, .int t_saved, .ref h_t_text, .int t_letters, .int t_stage, .ref h_t_part, .int t_size, .ref h_t_matrix, .ref h_t_power, .ref h_t_product, .ref h_t_poly, .ref h_t_old, .ref h_t_step, .ref h_t_column, .ref h_t_moved, .ref h_t_traces, .ref h_t_signed, .ref h_t_plus, .ref h_t_minus, .ref h_t_walk], aI g h_t_now 29 a_t_now, aI g h_t_read 29 a_t_read] → va_S A s.heap H locs → lv_has ls 3 [(1, .int p1)] → W p l e (rmv 2 43) s m args below meth c H locs 0 0 Q (F0 m 96 ls [.int j_88, .int (x_10 + (nI 2)), .ref h_t_read]) := by
      intro H locs ls hP hD hS hl
      obtain ⟨g_96, hM⟩ := gd_some hM
      refine w_iast cx hP hD hS 2 rfl g_96 dX9_takes_96 [ob h_t 9 [.ref h_t_now, .ref h_t_read, .ref h_t_past, .int t_saved, .ref h_t_text, .int t_letters, .int t_stage, .ref h_t_part, .int t_size, .ref h_t_matrix, .ref h_t_power, .ref h_t_product, .ref h_t_poly, .ref h_t_old, .ref h_t_step, .ref h_t_column, .ref h_t_moved, .ref h_t_traces, .ref h_t_signed, .ref h_t_plus, .ref h_t_minus, .ref h_t_walk], aI g h_t_now 29 a_t_now, aI g h_t_read 29 (upd a_t_read (x_10 + (nI 2)).toNatClampNeg j_88)] rfl (fun H locs hP hD hS => ?_)
      refine lv_iload_n hx hb dX9_takes_97 rfl (lv_at hl 0 rfl) ?_
      refine lv_bipush (v := (nI 45)) hx hb dX9_takes_98 (by decide) ?_
      refine lv_icmp_eq (tgt := 109) hx hb dX9_takes_100 (by decide) (fun c_100 => ?_) (fun c_100 => ?_)
      · have hM := if_t hM c_100
        refine lv_iconst (v := (nI 1)) hx hb dX9_takes_109 (by decide) ?_
        refine lv_goto (tgt := 114) hx hb dX9_takes_110 (by decide) ?_
        have hz : bq (nI 1) = true := by decide
        obtain rfl := Option.some.inj hM
        exact hfin 114 _ _ _ dX9_takes_114 hz hP hD hS
      · have hM := if_f hM c_100
        refine lv_iload_n hx hb dX9_takes_103 rfl (lv_at hl 0 rfl) ?_
        refine lv_bipush (v := (nI 126)) hx hb dX9_takes_104 (by decide) ?_
        refine lv_icmp_ne (tgt := 113) hx hb dX9_takes_106 (by decide) (fun c_106 => ?_) (fun c_106 => ?_)
        · have hM := if_f hM c_106
          refine lv_iconst (v := (nI 0)) hx hb dX9_takes_113 (by decide) ?_
          have hz : bq (nI 0) = true := by decide
          obtain rfl := Option.some.inj hM
          exact hfin 114 _ _ _ dX9_takes_114 hz hP hD hS
        · have hM := if_t hM c_106
          refine lv_iconst (v := (nI 1)) hx hb dX9_takes_109 (by decide) ?_
          refine lv_goto (tgt := 114) hx hb dX9_takes_110 (by decide) ?_
          have hz : bq (nI 1) = true := by decide
          obtain rfl := Option.some.inj hM
          exact hfin 114 _ _ _ dX9_takes_114 hz hP hD hS
    clear hM
    have hM := hB
    clear hB
    refine lv_icmp_ne (tgt := 95) hx hb dX9_takes_88 (by decide) (fun c_88 => ?_) (fun c_88 => ?_)
    · have hM := if_f hM c_88
      refine lv_iconst (v := (nI 4294967295)) hx hb dX9_takes_95 (by decide) ?_
      obtain rfl := Option.some.inj hM
      exact hJ_88 _ _ _ hP hD hS (lv_sub hl [2] rfl)
    · have hM := if_t hM c_88
      refine lv_iconst (v := (nI 1)) hx hb dX9_takes_91 (by decide) ?_
      refine lv_goto (tgt := 96) hx hb dX9_takes_92 (by decide) ?_
      obtain rfl := Option.some.inj hM
      exact hJ_88 _ _ _ hP hD hS (lv_sub hl [2] rfl)
  have hM := if_f hM c_15_1
  by_cases c_15_2 : t_stage = (nI 2)
  · have hM := if_t hM c_15_2
    refine lv_tableIn (x := t_stage) (tgt := 115) hx hb dX9_takes_15 (off := 100) (by rw [c_15_2]; decide) (by rw [c_15_2]; decide) (by rw [c_15_2]; rfl) (by decide) ?_
    refine lv_aload_n hx hb dX9_takes_115 rfl (lv_at hl 1 rfl) ?_
    refine w_get cx hP 0 9 1 rfl rfl (by decide) m_645 rfl rfl dX9_takes_116 ?_
    refine lv_iload_n hx hb dX9_takes_119 rfl (lv_at hl 0 rfl) ?_
    refine lv_iconst (v := (nI 1)) hx hb dX9_takes_120 (by decide) ?_
    refine lv_iadd hx hb dX9_takes_121 ?_
    refine lv_iload_n hx hb dX9_takes_122 rfl (lv_at hl 2 rfl) ?_
    refine lv_bipush (v := (nI 48)) hx hb dX9_takes_123 (by decide) ?_
    refine lv_isub hx hb dX9_takes_125 ?_
    obtain ⟨g_126, hM⟩ := gd_some hM
    refine w_iast cx hP hD hS 2 rfl g_126 dX9_takes_126 [ob h_t 9 [.ref h_t_now, .ref h_t_read, .ref h_t_past, .int t_saved, .ref h_t_text, .int t_letters, .int t_stage, .ref h_t_part, .int t_size, .ref h_t_matrix, .ref h_t_power, .ref h_t_product, .ref h_t_poly, .ref h_t_old, .ref h_t_step, .ref h_t_column, .ref h_t_moved, .ref h_t_traces, .ref h_t_signed, .ref h_t_plus, .ref h_t_minus, .ref h_t_walk], aI g h_t_now 29 a_t_now, aI g h_t_read 29 (upd a_t_read (x_10 + (nI 1)).toNatClampNeg (p1 - (nI 48)))] rfl (fun H locs hP hD hS => ?_)
    refine lv_aload_n hx hb dX9_takes_127 rfl (lv_at hl 1 rfl) ?_
    refine lv_iload_n hx hb dX9_takes_128 rfl (lv_at hl 2 rfl) ?_
    refine lv_bipush (v := (nI 48)) hx hb dX9_takes_129 (by decide) ?_
    refine lv_isub hx hb dX9_takes_131 ?_
    obtain ⟨q_132, hc_132, hM⟩ := bd_some hM
    refine w_callV cx hP hD hS hA (c_X9_isVertex g l h_t h_t_now h_t_read h_t_past h_t_text h_t_part h_t_matrix h_t_power h_t_product h_t_poly h_t_old h_t_step h_t_column h_t_moved h_t_traces h_t_signed h_t_plus h_t_minus h_t_walk (p1 - (nI 48)) t_saved t_letters t_stage t_size a_t_now hc_132) [0, 1] rfl (by decide) rfl [ob h_t 9 [.ref h_t_now, .ref h_t_read, .ref h_t_past, .int t_saved, .ref h_t_text, .int t_letters, .int t_stage, .ref h_t_part, .int t_size, .ref h_t_matrix, .ref h_t_power, .ref h_t_product, .ref h_t_poly, .ref h_t_old, .ref h_t_step, .ref h_t_column, .ref h_t_moved, .ref h_t_traces, .ref h_t_signed, .ref h_t_plus, .ref h_t_minus, .ref h_t_walk], aI g h_t_now 29 a_t_now, aI g h_t_read 29 (upd a_t_read (x_10 + (nI 1)).toNatClampNeg (p1 - (nI 48)))] rfl 0 9 rfl rfl yq_X9_isVertex rfl m_726 m_728 m_17 m_51 m_729 ⟨Nat.le_of_ble_eq_true rfl, Nat.le_of_ble_eq_true rfl⟩ rfl rfl hl.1 (Nat.le_of_ble_eq_true rfl) dX9_takes_132 ⟨Nat.le_refl 0, Nat.le_refl 0⟩ rfl (fun H locs hP hD hS => ?_)
    refine lv_if_eq (tgt := 155) hx hb dX9_takes_135 (by decide) (fun c_135 => ?_) (fun c_135 => ?_)
    · have hM := if_t hM c_135
      refine lv_iconst (v := (nI 0)) hx hb dX9_takes_155 (by decide) ?_
      have hz : bq (nI 0) = true := by decide
      obtain rfl := Option.some.inj hM
      exact hfin 156 _ _ _ dX9_takes_156 hz hP hD hS
    · have hM := if_f hM c_135
      refine lv_aload_n hx hb dX9_takes_138 rfl (lv_at hl 1 rfl) ?_
      refine w_get cx hP 0 9 1 rfl rfl (by decide) m_645 rfl rfl dX9_takes_139 ?_
      refine lv_iload_n hx hb dX9_takes_142 rfl (lv_at hl 0 rfl) ?_
      obtain ⟨g_143, hM⟩ := gd_some hM
      refine w_iald cx hP 2 rfl g_143 dX9_takes_143 ?_
      refine lv_iload_n hx hb dX9_takes_144 rfl (lv_at hl 2 rfl) ?_
      refine lv_bipush (v := (nI 48)) hx hb dX9_takes_145 (by decide) ?_
      refine lv_isub hx hb dX9_takes_147 ?_
      refine lv_icmp_eq (tgt := 155) hx hb dX9_takes_148 (by decide) (fun c_148 => ?_) (fun c_148 => ?_)
      · have hM := if_t hM c_148
        refine lv_iconst (v := (nI 0)) hx hb dX9_takes_155 (by decide) ?_
        have hz : bq (nI 0) = true := by decide
        obtain rfl := Option.some.inj hM
        exact hfin 156 _ _ _ dX9_takes_156 hz hP hD hS
      · have hM := if_f hM c_148
        refine lv_iconst (v := (nI 1)) hx hb dX9_takes_151 (by decide) ?_
        refine lv_goto (tgt := 156) hx hb dX9_takes_152 (by decide) ?_
        have hz : bq (nI 1) = true := by decide
        obtain rfl := Option.some.inj hM
        exact hfin 156 _ _ _ dX9_takes_156 hz hP hD hS
  have hM := if_f hM c_15_2
  refine lv_tableOut (x := t_stage) (tgt := 157) hx hb dX9_takes_15 (ts_out3 c_15_0 c_15_1 c_15_2) (by decide) ?_
  refine lv_iload_n hx hb dX9_takes_157 rfl (lv_at hl 2 rfl) ?_
  refine lv_bipush (v := (nI 59)) hx hb dX9_takes_158 (by decide) ?_
  refine lv_icmp_ne (tgt := 167) hx hb dX9_takes_160 (by decide) (fun c_160 => ?_) (fun c_160 => ?_)
  · have hM := if_f hM c_160
    refine lv_iconst (v := (nI 0)) hx hb dX9_takes_167 (by decide) ?_
    have hz : bq (nI 0) = true := by decide
    obtain rfl := Option.some.inj hM
    exact hfin 168 _ _ _ dX9_takes_168 hz hP hD hS
  · have hM := if_t hM c_160
    refine lv_iconst (v := (nI 1)) hx hb dX9_takes_163 (by decide) ?_
    refine lv_goto (tgt := 168) hx hb dX9_takes_164 (by decide) ?_
    have hz : bq (nI 1) = true := by decide
    obtain rfl := Option.some.inj hM
    exact hfin 168 _ _ _ dX9_takes_168 hz hP hD hS
noncomputable def b_X9_reads_26 (t_saved : Int32) (t_letters : Int32) (t_size : Int32) (a_t_now : Nat → Int32) (a_t_text : Nat → Int32) : Int32 × Int32 × (Nat → Int32) → Option ((Int32 × Int32 × (Nat → Int32)) ⊕ ((Int32 × Int32 × (Nat → Int32)) ⊕ (Int32 × (Nat → Int32)))) := fun z_26 =>
  if t_letters ≤ z_26.1 then some (.inr (.inr (z_26.2.1, z_26.2.2))) else gd (inb z_26.1 60) (if (a_t_text z_26.1.toNatClampNeg) = (nI 32) then some (.inl (z_26.1 + (nI 1), z_26.2.1, z_26.2.2)) else gd (inb (nI 1) 29) (if (z_26.2.2 (nI 1).toNatClampNeg) = (nI 9) then some (.inr (.inl (z_26.1, z_26.2.1, z_26.2.2))) else gd (inb z_26.1 60) (bd (f_X9_takes (a_t_text z_26.1.toNatClampNeg) t_saved t_letters z_26.2.1 t_size a_t_now z_26.2.2) (fun (q_63 : Int32 × (Nat → Int32)) => if q_63.1 = 0 then some (.inr (.inl (z_26.1, z_26.2.1, q_63.2))) else gd (inb (nI 1) 29) (bd (if ((z_26.2.1 + (nI 1)) - (z_26.2.1 + (nI 1)) / (nI 4) * (nI 4)) = 0 then some (nI 1) else some (nI 0)) (fun (j_94 : Int32) => gd (inb (nI 1) 29) (some (.inl (z_26.1 + (nI 1), ((z_26.2.1 + (nI 1)) - (z_26.2.1 + (nI 1)) / (nI 4) * (nI 4)), upd q_63.2 (nI 1).toNatClampNeg ((q_63.2 (nI 1).toNatClampNeg) + j_94))))))))))
noncomputable def f_X9_reads (t_saved : Int32) (t_letters : Int32) (t_stage : Int32) (t_size : Int32) (a_t_now : Nat → Int32) (a_t_read : Nat → Int32) (a_t_text : Nat → Int32) : Option (Int32 × Int32 × (Nat → Int32)) :=
  gd (inb (nI 0) 29) (gd (inb (nI 0) 29) (gd (inb (nI 1) 29) (bd (wh (b_X9_reads_26 t_saved t_letters t_size a_t_now a_t_text) ((nI 0), (nI 0), upd (upd a_t_read (nI 0).toNatClampNeg (a_t_now (nI 0).toNatClampNeg)) (nI 1).toNatClampNeg (nI 0))) (fun (r_26 : (Int32 × Int32 × (Nat → Int32)) ⊕ (Int32 × (Nat → Int32))) => ex2 r_26 (fun (r_26_0 : Int32 × Int32 × (Nat → Int32)) => some (r_26_0.1, r_26_0.2.1, r_26_0.2.2)) (fun (r_26_1 : Int32 × (Nat → Int32)) => if r_26_1.1 = 0 then some ((nI 4294967287), r_26_1.1, r_26_1.2) else some (t_letters, r_26_1.1, r_26_1.2))))))
theorem yq_X9_reads : yq yX9_reads 0 := by unfold yq; decide +kernel
set_option maxHeartbeats 4000000 in
set_option maxRecDepth 100000 in
theorem c_X9_reads (g : GG) (l : Launch) (h_t : Nat) (h_t_now : Nat) (h_t_read : Nat) (h_t_past : Nat) (h_t_text : Nat) (h_t_part : Nat) (h_t_matrix : Nat) (h_t_power : Nat) (h_t_product : Nat) (h_t_poly : Nat) (h_t_old : Nat) (h_t_step : Nat) (h_t_column : Nat) (h_t_moved : Nat) (h_t_traces : Nat) (h_t_signed : Nat) (h_t_plus : Nat) (h_t_minus : Nat) (h_t_walk : Nat) (t_saved : Int32) (t_letters : Int32) (t_stage : Int32) (t_size : Int32) (a_t_now : Nat → Int32) (a_t_read : Nat → Int32) (a_t_text : Nat → Int32) {R : Int32 × Int32 × (Nat → Int32)} (hM : f_X9_reads t_saved t_letters t_stage t_size a_t_now a_t_read a_t_text = some R) : CT g l yX9_reads cX9_reads 2 (some .int) 3 65 [.ref h_t] [ob h_t 9 [.ref h_t_now, .ref h_t_read, .ref h_t_past, .int t_saved, .ref h_t_text, .int t_letters, .int t_stage, .ref h_t_part, .int t_size, .ref h_t_matrix, .ref h_t_power, .ref h_t_product, .ref h_t_poly, .ref h_t_old, .ref h_t_step, .ref h_t_column, .ref h_t_moved, .ref h_t_traces, .ref h_t_signed, .ref h_t_plus, .ref h_t_minus, .ref h_t_walk], aI g h_t_now 29 a_t_now, aI g h_t_read 29 a_t_read, aI g h_t_text 60 a_t_text] [ob h_t 9 [.ref h_t_now, .ref h_t_read, .ref h_t_past, .int t_saved, .ref h_t_text, .int t_letters, .int R.2.1, .ref h_t_part, .int t_size, .ref h_t_matrix, .ref h_t_power, .ref h_t_product, .ref h_t_poly, .ref h_t_old, .ref h_t_step, .ref h_t_column, .ref h_t_moved, .ref h_t_traces, .ref h_t_signed, .ref h_t_plus, .ref h_t_minus, .ref h_t_walk], aI g h_t_now 29 a_t_now, aI g h_t_read 29 R.2.2, aI g h_t_text 60 a_t_text] (some (.int R.1)) := by
  refine ct_i (by decide +kernel) (Nat.le_of_ble_eq_true rfl) ?_
  intro p e s m args below meth c Q A ls cx hP hD hA hl hfin
  obtain ⟨hx, hb, hml, hown, hts, hK⟩ := id cx
  have hl : lv_has ls 2 [(0, .ref h_t)] := hl
  have hS : va_S A s.heap s.heap [] := va_S.rf
  refine lv_aload_n hx hb dX9_reads_0 rfl (lv_at hl 0 rfl) ?_
  refine w_get cx hP 0 9 1 rfl rfl (by decide) m_645 rfl rfl dX9_reads_1 ?_
  refine lv_iconst (v := (nI 0)) hx hb dX9_reads_4 (by decide) ?_
  refine lv_aload_n hx hb dX9_reads_5 rfl (lv_at hl 0 rfl) ?_
  refine w_get cx hP 0 9 0 rfl rfl (by decide) m_644 rfl rfl dX9_reads_6 ?_
  refine lv_iconst (v := (nI 0)) hx hb dX9_reads_9 (by decide) ?_
  obtain ⟨g_10, hM⟩ := gd_some hM
  refine w_iald cx hP 1 rfl g_10 dX9_reads_10 ?_
  obtain ⟨g_11, hM⟩ := gd_some hM
  refine w_iast cx hP hD hS 2 rfl g_11 dX9_reads_11 [ob h_t 9 [.ref h_t_now, .ref h_t_read, .ref h_t_past, .int t_saved, .ref h_t_text, .int t_letters, .int t_stage, .ref h_t_part, .int t_size, .ref h_t_matrix, .ref h_t_power, .ref h_t_product, .ref h_t_poly, .ref h_t_old, .ref h_t_step, .ref h_t_column, .ref h_t_moved, .ref h_t_traces, .ref h_t_signed, .ref h_t_plus, .ref h_t_minus, .ref h_t_walk], aI g h_t_now 29 a_t_now, aI g h_t_read 29 (upd a_t_read (nI 0).toNatClampNeg (a_t_now (nI 0).toNatClampNeg)), aI g h_t_text 60 a_t_text] rfl (fun H locs hP hD hS => ?_)
  refine lv_aload_n hx hb dX9_reads_12 rfl (lv_at hl 0 rfl) ?_
  refine w_get cx hP 0 9 1 rfl rfl (by decide) m_645 rfl rfl dX9_reads_13 ?_
  refine lv_iconst (v := (nI 1)) hx hb dX9_reads_16 (by decide) ?_
  refine lv_iconst (v := (nI 0)) hx hb dX9_reads_17 (by decide) ?_
  obtain ⟨g_18, hM⟩ := gd_some hM
  refine w_iast cx hP hD hS 2 rfl g_18 dX9_reads_18 [ob h_t 9 [.ref h_t_now, .ref h_t_read, .ref h_t_past, .int t_saved, .ref h_t_text, .int t_letters, .int t_stage, .ref h_t_part, .int t_size, .ref h_t_matrix, .ref h_t_power, .ref h_t_product, .ref h_t_poly, .ref h_t_old, .ref h_t_step, .ref h_t_column, .ref h_t_moved, .ref h_t_traces, .ref h_t_signed, .ref h_t_plus, .ref h_t_minus, .ref h_t_walk], aI g h_t_now 29 a_t_now, aI g h_t_read 29 (upd (upd a_t_read (nI 0).toNatClampNeg (a_t_now (nI 0).toNatClampNeg)) (nI 1).toNatClampNeg (nI 0)), aI g h_t_text 60 a_t_text] rfl (fun H locs hP hD hS => ?_)
  refine lv_aload_n hx hb dX9_reads_19 rfl (lv_at hl 0 rfl) ?_
  refine lv_iconst (v := (nI 0)) hx hb dX9_reads_20 (by decide) ?_
  refine w_put cx hP hD hS 0 9 6 rfl rfl (by decide) m_650 rfl rfl rfl (Nat.le_of_ble_eq_true rfl) dX9_reads_21 [ob h_t 9 [.ref h_t_now, .ref h_t_read, .ref h_t_past, .int t_saved, .ref h_t_text, .int t_letters, .int (nI 0), .ref h_t_part, .int t_size, .ref h_t_matrix, .ref h_t_power, .ref h_t_product, .ref h_t_poly, .ref h_t_old, .ref h_t_step, .ref h_t_column, .ref h_t_moved, .ref h_t_traces, .ref h_t_signed, .ref h_t_plus, .ref h_t_minus, .ref h_t_walk], aI g h_t_now 29 a_t_now, aI g h_t_read 29 (upd (upd a_t_read (nI 0).toNatClampNeg (a_t_now (nI 0).toNatClampNeg)) (nI 1).toNatClampNeg (nI 0)), aI g h_t_text 60 a_t_text] rfl (fun H locs hP hD hS => ?_)
  refine lv_iconst (v := (nI 0)) hx hb dX9_reads_24 (by decide) ?_
  refine lv_istore_n (lv' := [(1, .int (nI 0)), (0, .ref h_t)]) hx hb dX9_reads_25 rfl hl (by decide) rfl (fun ls hl => ?_)
  obtain ⟨r_26, hw, hM⟩ := bd_some hM
  obtain ⟨n, hn⟩ := wh_some hw
  clear hw
  have hE_26_0 : ∀ (r_26_0 : Int32 × Int32 × (Nat → Int32)), r_26 = .inl r_26_0 → ∀ (H : Heap) (locs : List Loc) (ls : Array Slot), va_P (gD g) vwCl [ob h_t 9 [.ref h_t_now, .ref h_t_read, .ref h_t_past, .int t_saved, .ref h_t_text, .int t_letters, .int r_26_0.2.1, .ref h_t_part, .int t_size, .ref h_t_matrix, .ref h_t_power, .ref h_t_product, .ref h_t_poly, .ref h_t_old, .ref h_t_step, .ref h_t_column, .ref h_t_moved, .ref h_t_traces, .ref h_t_signed, .ref h_t_plus, .ref h_t_minus, .ref h_t_walk], aI g h_t_now 29 a_t_now, aI g h_t_read 29 r_26_0.2.2, aI g h_t_text 60 a_t_text] H → va_D A [ob h_t 9 [.ref h_t_now, .ref h_t_read, .ref h_t_past, .int t_saved, .ref h_t_text, .int t_letters, .int r_26_0.2.1, .ref h_t_part, .int t_size, .ref h_t_matrix, .ref h_t_power, .ref h_t_product, .ref h_t_poly, .ref h_t_old, .ref h_t_step, .ref h_t_column, .ref h_t_moved, .ref h_t_traces, .ref h_t_signed, .ref h_t_plus, .ref h_t_minus, .ref h_t_walk], aI g h_t_now 29 a_t_now, aI g h_t_read 29 r_26_0.2.2, aI g h_t_text 60 a_t_text] → va_S A s.heap H locs → lv_has ls 2 [(1, .int r_26_0.1)] → W p l e (rmv 3 65) s m args below meth c H locs 0 0 Q (F0 m 69 ls []) := by
    intro r_26_0 hr H locs ls hP hD hS hl
    have hM := ex2_0 hM hr
    refine lv_iload_n hx hb dX9_reads_69 rfl (lv_at hl 0 rfl) ?_
    obtain rfl := Option.some.inj hM
    exact hfin 70 _ _ _ dX9_reads_70 hP hD hS
  have hE_26_1 : ∀ (r_26_1 : Int32 × (Nat → Int32)), r_26 = .inr r_26_1 → ∀ (H : Heap) (locs : List Loc) (ls : Array Slot), va_P (gD g) vwCl [ob h_t 9 [.ref h_t_now, .ref h_t_read, .ref h_t_past, .int t_saved, .ref h_t_text, .int t_letters, .int r_26_1.1, .ref h_t_part, .int t_size, .ref h_t_matrix, .ref h_t_power, .ref h_t_product, .ref h_t_poly, .ref h_t_old, .ref h_t_step, .ref h_t_column, .ref h_t_moved, .ref h_t_traces, .ref h_t_signed, .ref h_t_plus, .ref h_t_minus, .ref h_t_walk], aI g h_t_now 29 a_t_now, aI g h_t_read 29 r_26_1.2, aI g h_t_text 60 a_t_text] H → va_D A [ob h_t 9 [.ref h_t_now, .ref h_t_read, .ref h_t_past, .int t_saved, .ref h_t_text, .int t_letters, .int r_26_1.1, .ref h_t_part, .int t_size, .ref h_t_matrix, .ref h_t_power, .ref h_t_product, .ref h_t_poly, .ref h_t_old, .ref h_t_step, .ref h_t_column, .ref h_t_moved, .ref h_t_traces, .ref h_t_signed, .ref h_t_plus, .ref h_t_minus, .ref h_t_walk], aI g h_t_now 29 a_t_now, aI g h_t_read 29 r_26_1.2, aI g h_t_text 60 a_t_text] → va_S A s.heap H locs → lv_has ls 2 [(0, .ref h_t)] → W p l e (rmv 3 65) s m args below meth c H locs 0 0 Q (F0 m 110 ls []) := by
    intro r_26_1 hr H locs ls hP hD hS hl
    have hM := ex2_1 hM hr
    refine lv_aload_n hx hb dX9_reads_110 rfl (lv_at hl 0 rfl) ?_
    refine w_get cx hP 0 9 6 rfl rfl (by decide) m_650 rfl rfl dX9_reads_111 ?_
    refine lv_if_ne (tgt := 122) hx hb dX9_reads_114 (by decide) (fun c_114 => ?_) (fun c_114 => ?_)
    · have hM := if_f hM c_114
      refine lv_aload_n hx hb dX9_reads_122 rfl (lv_at hl 0 rfl) ?_
      refine w_get cx hP 0 9 5 rfl rfl (by decide) m_649 rfl rfl dX9_reads_123 ?_
      obtain rfl := Option.some.inj hM
      exact hfin 126 _ _ _ dX9_reads_126 hP hD hS
    · have hM := if_t hM c_114
      refine lv_bipush (v := (nI 4294967287)) hx hb dX9_reads_117 (by decide) ?_
      refine lv_goto (tgt := 126) hx hb dX9_reads_119 (by decide) ?_
      obtain rfl := Option.some.inj hM
      exact hfin 126 _ _ _ dX9_reads_126 hP hD hS
  clear hM
  have hL_26 : ∀ (n : Nat) (z_26 : Int32 × Int32 × (Nat → Int32)), it (b_X9_reads_26 t_saved t_letters t_size a_t_now a_t_text) n z_26 = some r_26 → ∀ (H : Heap) (locs : List Loc) (ls : Array Slot), va_P (gD g) vwCl [ob h_t 9 [.ref h_t_now, .ref h_t_read, .ref h_t_past, .int t_saved, .ref h_t_text, .int t_letters, .int z_26.2.1, .ref h_t_part, .int t_size, .ref h_t_matrix, .ref h_t_power, .ref h_t_product, .ref h_t_poly, .ref h_t_old, .ref h_t_step, .ref h_t_column, .ref h_t_moved, .ref h_t_traces, .ref h_t_signed, .ref h_t_plus, .ref h_t_minus, .ref h_t_walk], aI g h_t_now 29 a_t_now, aI g h_t_read 29 z_26.2.2, aI g h_t_text 60 a_t_text] H → va_D A [ob h_t 9 [.ref h_t_now, .ref h_t_read, .ref h_t_past, .int t_saved, .ref h_t_text, .int t_letters, .int z_26.2.1, .ref h_t_part, .int t_size, .ref h_t_matrix, .ref h_t_power, .ref h_t_product, .ref h_t_poly, .ref h_t_old, .ref h_t_step, .ref h_t_column, .ref h_t_moved, .ref h_t_traces, .ref h_t_signed, .ref h_t_plus, .ref h_t_minus, .ref h_t_walk], aI g h_t_now 29 a_t_now, aI g h_t_read 29 z_26.2.2, aI g h_t_text 60 a_t_text] → va_S A s.heap H locs → lv_has ls 2 [(1, .int z_26.1), (0, .ref h_t)] → W p l e (rmv 3 65) s m args below meth c H locs 0 0 Q (F0 m 26 ls []) := by
    intro n
    induction n with
    | zero => intro z_26 hn; exact (it_zero hn).elim
    | succ n ih =>
      intro z_26 hn H locs ls hP hD hS hl
      obtain ⟨x, hM, hX⟩ := it_succ hn
      clear hn
      refine lv_iload_n hx hb dX9_reads_26 rfl (lv_at hl 0 rfl) ?_
      refine lv_aload_n hx hb dX9_reads_27 rfl (lv_at hl 1 rfl) ?_
      refine w_get cx hP 0 9 5 rfl rfl (by decide) m_649 rfl rfl dX9_reads_28 ?_
      refine lv_icmp_ge (tgt := 110) hx hb dX9_reads_31 (by decide) (fun c_31 => ?_) (fun c_31 => ?_)
      · have hM := if_t hM c_31
        obtain rfl := Option.some.inj hM
        obtain rfl : _ = r_26 := hX
        exact hE_26_1 _ rfl _ _ _ hP hD hS (lv_sub hl [1] rfl)
      · have hM := if_f hM c_31
        refine lv_aload_n hx hb dX9_reads_34 rfl (lv_at hl 1 rfl) ?_
        refine w_get cx hP 0 9 4 rfl rfl (by decide) m_648 rfl rfl dX9_reads_35 ?_
        refine lv_iload_n hx hb dX9_reads_38 rfl (lv_at hl 0 rfl) ?_
        obtain ⟨g_39, hM⟩ := gd_some hM
        refine w_iald cx hP 3 rfl g_39 dX9_reads_39 ?_
        refine lv_bipush (v := (nI 32)) hx hb dX9_reads_40 (by decide) ?_
        refine lv_icmp_eq (tgt := 104) hx hb dX9_reads_42 (by decide) (fun c_42 => ?_) (fun c_42 => ?_)
        · have hM := if_t hM c_42
          refine lv_iinc (v := z_26.1 + (nI 1)) (lv' := [(1, .int (z_26.1 + (nI 1))), (0, .ref h_t)]) hx hb dX9_reads_104 hl (k := 0) rfl (congrArg (fun q => z_26.1 + q) (show Int32.ofInt (1) = (nI 1) by decide)) (by decide) rfl (fun ls hl => ?_)
          refine lv_goto (tgt := 26) hx hb dX9_reads_107 (by decide) ?_
          obtain rfl := Option.some.inj hM
          exact ih _ hX _ _ _ hP hD hS (lv_sub hl [0, 1] rfl)
        · have hM := if_f hM c_42
          refine lv_aload_n hx hb dX9_reads_45 rfl (lv_at hl 1 rfl) ?_
          refine w_get cx hP 0 9 1 rfl rfl (by decide) m_645 rfl rfl dX9_reads_46 ?_
          refine lv_iconst (v := (nI 1)) hx hb dX9_reads_49 (by decide) ?_
          obtain ⟨g_50, hM⟩ := gd_some hM
          refine w_iald cx hP 2 rfl g_50 dX9_reads_50 ?_
          refine lv_bipush (v := (nI 9)) hx hb dX9_reads_51 (by decide) ?_
          refine lv_icmp_eq (tgt := 69) hx hb dX9_reads_53 (by decide) (fun c_53 => ?_) (fun c_53 => ?_)
          · have hM := if_t hM c_53
            obtain rfl := Option.some.inj hM
            obtain rfl : _ = r_26 := hX
            exact hE_26_0 _ rfl _ _ _ hP hD hS (lv_sub hl [0] rfl)
          · have hM := if_f hM c_53
            refine lv_aload_n hx hb dX9_reads_56 rfl (lv_at hl 1 rfl) ?_
            refine lv_aload_n hx hb dX9_reads_57 rfl (lv_at hl 1 rfl) ?_
            refine w_get cx hP 0 9 4 rfl rfl (by decide) m_648 rfl rfl dX9_reads_58 ?_
            refine lv_iload_n hx hb dX9_reads_61 rfl (lv_at hl 0 rfl) ?_
            obtain ⟨g_62, hM⟩ := gd_some hM
            refine w_iald cx hP 3 rfl g_62 dX9_reads_62 ?_
            obtain ⟨q_63, hc_63, hM⟩ := bd_some hM
            refine w_callV cx hP hD hS hA (c_X9_takes g l h_t h_t_now h_t_read h_t_past h_t_text h_t_part h_t_matrix h_t_power h_t_product h_t_poly h_t_old h_t_step h_t_column h_t_moved h_t_traces h_t_signed h_t_plus h_t_minus h_t_walk (a_t_text z_26.1.toNatClampNeg) t_saved t_letters z_26.2.1 t_size a_t_now z_26.2.2 hc_63) [0, 1, 2] rfl (by decide) rfl [ob h_t 9 [.ref h_t_now, .ref h_t_read, .ref h_t_past, .int t_saved, .ref h_t_text, .int t_letters, .int z_26.2.1, .ref h_t_part, .int t_size, .ref h_t_matrix, .ref h_t_power, .ref h_t_product, .ref h_t_poly, .ref h_t_old, .ref h_t_step, .ref h_t_column, .ref h_t_moved, .ref h_t_traces, .ref h_t_signed, .ref h_t_plus, .ref h_t_minus, .ref h_t_walk], aI g h_t_now 29 a_t_now, aI g h_t_read 29 q_63.2, aI g h_t_text 60 a_t_text] rfl 0 9 rfl rfl yq_X9_takes rfl m_758 m_760 m_20 m_51 m_761 ⟨Nat.le_of_ble_eq_true rfl, Nat.le_of_ble_eq_true rfl⟩ rfl rfl hl.1 (Nat.le_of_ble_eq_true rfl) dX9_reads_63 ⟨Nat.le_refl 0, Nat.le_refl 0⟩ rfl (fun H locs hP hD hS => ?_)
            refine lv_if_ne (tgt := 71) hx hb dX9_reads_66 (by decide) (fun c_66 => ?_) (fun c_66 => ?_)
            · have hM := if_f hM c_66
              refine lv_aload_n hx hb dX9_reads_71 rfl (lv_at hl 1 rfl) ?_
              refine lv_aload_n hx hb dX9_reads_72 rfl (lv_at hl 1 rfl) ?_
              refine w_get cx hP 0 9 6 rfl rfl (by decide) m_650 rfl rfl dX9_reads_73 ?_
              refine lv_iconst (v := (nI 1)) hx hb dX9_reads_76 (by decide) ?_
              refine lv_iadd hx hb dX9_reads_77 ?_
              refine lv_iconst (v := (nI 4)) hx hb dX9_reads_78 (by decide) ?_
              refine lv_irem hx hb dX9_reads_79 (by decide) ?_
              refine w_put cx hP hD hS 0 9 6 rfl rfl (by decide) m_650 rfl rfl rfl (Nat.le_of_ble_eq_true rfl) dX9_reads_80 [ob h_t 9 [.ref h_t_now, .ref h_t_read, .ref h_t_past, .int t_saved, .ref h_t_text, .int t_letters, .int ((z_26.2.1 + (nI 1)) - (z_26.2.1 + (nI 1)) / (nI 4) * (nI 4)), .ref h_t_part, .int t_size, .ref h_t_matrix, .ref h_t_power, .ref h_t_product, .ref h_t_poly, .ref h_t_old, .ref h_t_step, .ref h_t_column, .ref h_t_moved, .ref h_t_traces, .ref h_t_signed, .ref h_t_plus, .ref h_t_minus, .ref h_t_walk], aI g h_t_now 29 a_t_now, aI g h_t_read 29 q_63.2, aI g h_t_text 60 a_t_text] rfl (fun H locs hP hD hS => ?_)
              refine lv_aload_n hx hb dX9_reads_83 rfl (lv_at hl 1 rfl) ?_
              refine w_get cx hP 0 9 1 rfl rfl (by decide) m_645 rfl rfl dX9_reads_84 ?_
              refine lv_iconst (v := (nI 1)) hx hb dX9_reads_87 (by decide) ?_
              refine lv_dup2_11 hx hb dX9_reads_88 rfl rfl ?_
              obtain ⟨g_89, hM⟩ := gd_some hM
              refine w_iald cx hP 2 rfl g_89 dX9_reads_89 ?_
              refine lv_aload_n hx hb dX9_reads_90 rfl (lv_at hl 1 rfl) ?_
              refine w_get cx hP 0 9 6 rfl rfl (by decide) m_650 rfl rfl dX9_reads_91 ?_
              obtain ⟨j_94, hB, hM⟩ := bd_some hM
              have hJ_94 : ∀ (H : Heap) (locs : List Loc) (ls : Array Slot), va_P (gD g) vwCl [ob h_t 9 [.ref h_t_now, .ref h_t_read, .ref h_t_past, .int t_saved, .ref h_t_text, .int t_letters, .int ((z_26.2.1 + (nI 1)) - (z_26.2.1 + (nI 1)) / (nI 4) * (nI 4)), .ref h_t_part, .int t_size, .ref h_t_matrix, .ref h_t_power, .ref h_t_product, .ref h_t_poly, .ref h_t_old, .ref h_t_step, .ref h_t_column, .ref h_t_moved, .ref h_t_traces, .ref h_t_signed, .ref h_t_plus, .ref h_t_minus, .ref h_t_walk], aI g h_t_now 29 a_t_now, aI g h_t_read 29 q_63.2, aI g h_t_text 60 a_t_text] H → va_D A [ob h_t 9 [.ref h_t_now, .ref h_t_read, .ref h_t_past, .int t_saved, .ref h_t_text, .int t_letters, .int ((z_26.2.1 + (nI 1)) - (z_26.2.1 + (nI 1)) / (nI 4) * (nI 4)), .ref h_t_part, .int t_size, .ref h_t_matrix, .ref h_t_power, .ref h_t_product, .ref h_t_poly, .ref h_t_old, .ref h_t_step, .ref h_t_column, .ref h_t_moved, .ref h_t_traces, .ref h_t_signed, .ref h_t_plus, .ref h_t_minus, .ref h_t_walk], aI g h_t_now 29 a_t_now, aI g h_t_read 29 q_63.2, aI g h_t_text 60 a_t_text] → va_S A s.heap H locs → lv_has ls 2 [(1, .int z_26.1), (0, .ref h_t)] → W p l e (rmv 3 65) s m args below meth c H locs 0 0 Q (F0 m 102 ls [.int j_94, .int (q_63.2 (nI 1).toNatClampNeg), .int (nI 1), .ref h_t_read]) := by
                intro H locs ls hP hD hS hl
                refine lv_iadd hx hb dX9_reads_102 ?_
                obtain ⟨g_103, hM⟩ := gd_some hM
                refine w_iast cx hP hD hS 2 rfl g_103 dX9_reads_103 [ob h_t 9 [.ref h_t_now, .ref h_t_read, .ref h_t_past, .int t_saved, .ref h_t_text, .int t_letters, .int ((z_26.2.1 + (nI 1)) - (z_26.2.1 + (nI 1)) / (nI 4) * (nI 4)), .ref h_t_part, .int t_size, .ref h_t_matrix, .ref h_t_power, .ref h_t_product, .ref h_t_poly, .ref h_t_old, .ref h_t_step, .ref h_t_column, .ref h_t_moved, .ref h_t_traces, .ref h_t_signed, .ref h_t_plus, .ref h_t_minus, .ref h_t_walk], aI g h_t_now 29 a_t_now, aI g h_t_read 29 (upd q_63.2 (nI 1).toNatClampNeg ((q_63.2 (nI 1).toNatClampNeg) + j_94)), aI g h_t_text 60 a_t_text] rfl (fun H locs hP hD hS => ?_)
                refine lv_iinc (v := z_26.1 + (nI 1)) (lv' := [(1, .int (z_26.1 + (nI 1))), (0, .ref h_t)]) hx hb dX9_reads_104 hl (k := 0) rfl (congrArg (fun q => z_26.1 + q) (show Int32.ofInt (1) = (nI 1) by decide)) (by decide) rfl (fun ls hl => ?_)
                refine lv_goto (tgt := 26) hx hb dX9_reads_107 (by decide) ?_
                obtain rfl := Option.some.inj hM
                exact ih _ hX _ _ _ hP hD hS (lv_sub hl [0, 1] rfl)
              clear hM
              have hM := hB
              clear hB
              refine lv_if_ne (tgt := 101) hx hb dX9_reads_94 (by decide) (fun c_94 => ?_) (fun c_94 => ?_)
              · have hM := if_f hM c_94
                refine lv_iconst (v := (nI 0)) hx hb dX9_reads_101 (by decide) ?_
                obtain rfl := Option.some.inj hM
                exact hJ_94 _ _ _ hP hD hS (lv_sub hl [0, 1] rfl)
              · have hM := if_t hM c_94
                refine lv_iconst (v := (nI 1)) hx hb dX9_reads_97 (by decide) ?_
                refine lv_goto (tgt := 102) hx hb dX9_reads_98 (by decide) ?_
                obtain rfl := Option.some.inj hM
                exact hJ_94 _ _ _ hP hD hS (lv_sub hl [0, 1] rfl)
            · have hM := if_t hM c_66
              obtain rfl := Option.some.inj hM
              obtain rfl : _ = r_26 := hX
              exact hE_26_0 _ rfl _ _ _ hP hD hS (lv_sub hl [0] rfl)
  exact hL_26 n _ hn _ _ _ hP hD hS (lv_sub hl [0, 1] rfl)
noncomputable def b_X9_loadGraph_22 (q_1 : Int32 × Int32 × (Nat → Int32)) : Int32 × (Nat → Int32) → Option ((Int32 × (Nat → Int32)) ⊕ ((Nat → Int32))) := fun z_22 =>
  if (nI 29) ≤ z_22.1 then some (.inr z_22.2) else gd (inb z_22.1 29) (gd (inb z_22.1 29) (some (.inl (z_22.1 + (nI 1), upd z_22.2 z_22.1.toNatClampNeg (q_1.2.2 z_22.1.toNatClampNeg)))))
noncomputable def f_X9_loadGraph (t_saved : Int32) (t_letters : Int32) (t_stage : Int32) (t_size : Int32) (a_t_now : Nat → Int32) (a_t_read : Nat → Int32) (a_t_past : Nat → Int32) (a_t_text : Nat → Int32) : Option (Int32 × Int32 × Int32 × Int32 × (Nat → Int32) × (Nat → Int32) × (Nat → Int32)) :=
  bd (f_X9_reads t_saved t_letters t_stage t_size a_t_now a_t_read a_t_text) (fun (q_1 : Int32 × Int32 × (Nat → Int32)) => if q_1.1 = (nI 4294967287) then bd (f_X9_save t_saved t_letters q_1.2.1 t_size a_t_now a_t_past) (fun (q_17 : Int32 × (Nat → Int32)) => bd (wh (b_X9_loadGraph_22 q_1) ((nI 0), a_t_now)) (fun (r_22 : Nat → Int32) => gd (inb (nI 1) 29) (some (r_22 (nI 1).toNatClampNeg, q_17.1, (nI 0), q_1.2.1, r_22, q_1.2.2, q_17.2)))) else nm ((nI 4294967286) - q_1.1) (fun (y_14 : Int32) => some (y_14, t_saved, t_letters, q_1.2.1, a_t_now, q_1.2.2, a_t_past)))
theorem yq_X9_loadGraph : yq yX9_loadGraph 0 := by unfold yq; decide +kernel
set_option maxHeartbeats 4000000 in
set_option maxRecDepth 100000 in
theorem c_X9_loadGraph (g : GG) (l : Launch) (h_t : Nat) (h_t_now : Nat) (h_t_read : Nat) (h_t_past : Nat) (h_t_text : Nat) (h_t_part : Nat) (h_t_matrix : Nat) (h_t_power : Nat) (h_t_product : Nat) (h_t_poly : Nat) (h_t_old : Nat) (h_t_step : Nat) (h_t_column : Nat) (h_t_moved : Nat) (h_t_traces : Nat) (h_t_signed : Nat) (h_t_plus : Nat) (h_t_minus : Nat) (h_t_walk : Nat) (t_saved : Int32) (t_letters : Int32) (t_stage : Int32) (t_size : Int32) (a_t_now : Nat → Int32) (a_t_read : Nat → Int32) (a_t_past : Nat → Int32) (a_t_text : Nat → Int32) {R : Int32 × Int32 × Int32 × Int32 × (Nat → Int32) × (Nat → Int32) × (Nat → Int32)} (hM : f_X9_loadGraph t_saved t_letters t_stage t_size a_t_now a_t_read a_t_past a_t_text = some R) : CT g l yX9_loadGraph cX9_loadGraph 3 (some .int) 4 86 [.ref h_t] [ob h_t 9 [.ref h_t_now, .ref h_t_read, .ref h_t_past, .int t_saved, .ref h_t_text, .int t_letters, .int t_stage, .ref h_t_part, .int t_size, .ref h_t_matrix, .ref h_t_power, .ref h_t_product, .ref h_t_poly, .ref h_t_old, .ref h_t_step, .ref h_t_column, .ref h_t_moved, .ref h_t_traces, .ref h_t_signed, .ref h_t_plus, .ref h_t_minus, .ref h_t_walk], aI g h_t_now 29 a_t_now, aI g h_t_read 29 a_t_read, aI g h_t_past 232 a_t_past, aI g h_t_text 60 a_t_text] [ob h_t 9 [.ref h_t_now, .ref h_t_read, .ref h_t_past, .int R.2.1, .ref h_t_text, .int R.2.2.1, .int R.2.2.2.1, .ref h_t_part, .int t_size, .ref h_t_matrix, .ref h_t_power, .ref h_t_product, .ref h_t_poly, .ref h_t_old, .ref h_t_step, .ref h_t_column, .ref h_t_moved, .ref h_t_traces, .ref h_t_signed, .ref h_t_plus, .ref h_t_minus, .ref h_t_walk], aI g h_t_now 29 R.2.2.2.2.1, aI g h_t_read 29 R.2.2.2.2.2.1, aI g h_t_past 232 R.2.2.2.2.2.2, aI g h_t_text 60 a_t_text] (some (.int R.1)) := by
  refine ct_i (by decide +kernel) (Nat.le_of_ble_eq_true rfl) ?_
  intro p e s m args below meth c Q A ls cx hP hD hA hl hfin
  obtain ⟨hx, hb, hml, hown, hts, hK⟩ := id cx
  have hl : lv_has ls 3 [(0, .ref h_t)] := hl
  have hS : va_S A s.heap s.heap [] := va_S.rf
  refine lv_aload_n hx hb dX9_loadGraph_0 rfl (lv_at hl 0 rfl) ?_
  obtain ⟨q_1, hc_1, hM⟩ := bd_some hM
  refine w_callV cx hP hD hS hA (c_X9_reads g l h_t h_t_now h_t_read h_t_past h_t_text h_t_part h_t_matrix h_t_power h_t_product h_t_poly h_t_old h_t_step h_t_column h_t_moved h_t_traces h_t_signed h_t_plus h_t_minus h_t_walk t_saved t_letters t_stage t_size a_t_now a_t_read a_t_text hc_1) [0, 1, 2, 4] rfl (by decide) rfl [ob h_t 9 [.ref h_t_now, .ref h_t_read, .ref h_t_past, .int t_saved, .ref h_t_text, .int t_letters, .int q_1.2.1, .ref h_t_part, .int t_size, .ref h_t_matrix, .ref h_t_power, .ref h_t_product, .ref h_t_poly, .ref h_t_old, .ref h_t_step, .ref h_t_column, .ref h_t_moved, .ref h_t_traces, .ref h_t_signed, .ref h_t_plus, .ref h_t_minus, .ref h_t_walk], aI g h_t_now 29 a_t_now, aI g h_t_read 29 q_1.2.2, aI g h_t_past 232 a_t_past, aI g h_t_text 60 a_t_text] rfl 0 9 rfl rfl yq_X9_reads rfl m_754 m_756 m_19 m_51 m_757 ⟨Nat.le_of_ble_eq_true rfl, Nat.le_of_ble_eq_true rfl⟩ rfl rfl hl.1 (Nat.le_of_ble_eq_true rfl) dX9_loadGraph_1 ⟨Nat.le_refl 0, Nat.le_refl 0⟩ rfl (fun H locs hP hD hS => ?_)
  refine lv_istore_n (lv' := [(1, .int q_1.1), (0, .ref h_t)]) hx hb dX9_loadGraph_4 rfl hl (by decide) rfl (fun ls hl => ?_)
  refine lv_iload_n hx hb dX9_loadGraph_5 rfl (lv_at hl 0 rfl) ?_
  refine lv_bipush (v := (nI 4294967287)) hx hb dX9_loadGraph_6 (by decide) ?_
  refine lv_icmp_eq (tgt := 16) hx hb dX9_loadGraph_8 (by decide) (fun c_8 => ?_) (fun c_8 => ?_)
  · have hM := if_t hM c_8
    refine lv_aload_n hx hb dX9_loadGraph_16 rfl (lv_at hl 1 rfl) ?_
    obtain ⟨q_17, hc_17, hM⟩ := bd_some hM
    refine w_callV cx hP hD hS hA (c_X9_save g l h_t h_t_now h_t_read h_t_past h_t_text h_t_part h_t_matrix h_t_power h_t_product h_t_poly h_t_old h_t_step h_t_column h_t_moved h_t_traces h_t_signed h_t_plus h_t_minus h_t_walk t_saved t_letters q_1.2.1 t_size a_t_now a_t_past hc_17) [0, 1, 3] rfl (by decide) rfl [ob h_t 9 [.ref h_t_now, .ref h_t_read, .ref h_t_past, .int q_17.1, .ref h_t_text, .int t_letters, .int q_1.2.1, .ref h_t_part, .int t_size, .ref h_t_matrix, .ref h_t_power, .ref h_t_product, .ref h_t_poly, .ref h_t_old, .ref h_t_step, .ref h_t_column, .ref h_t_moved, .ref h_t_traces, .ref h_t_signed, .ref h_t_plus, .ref h_t_minus, .ref h_t_walk], aI g h_t_now 29 a_t_now, aI g h_t_read 29 q_1.2.2, aI g h_t_past 232 q_17.2, aI g h_t_text 60 a_t_text] rfl 0 9 rfl rfl yq_X9_save rfl m_718 m_720 m_16 m_51 m_721 ⟨Nat.le_of_ble_eq_true rfl, Nat.le_of_ble_eq_true rfl⟩ rfl rfl hl.1 (Nat.le_of_ble_eq_true rfl) dX9_loadGraph_17 ⟨Nat.le_refl 0, Nat.le_refl 0⟩ rfl (fun H locs hP hD hS => ?_)
    refine lv_iconst (v := (nI 0)) hx hb dX9_loadGraph_20 (by decide) ?_
    refine lv_istore_n (lv' := [(2, .int (nI 0)), (1, .int q_1.1), (0, .ref h_t)]) hx hb dX9_loadGraph_21 rfl hl (by decide) rfl (fun ls hl => ?_)
    obtain ⟨r_22, hw, hM⟩ := bd_some hM
    obtain ⟨n, hn⟩ := wh_some hw
    clear hw
    have hE_22_0 : ∀ (H : Heap) (locs : List Loc) (ls : Array Slot), va_P (gD g) vwCl [ob h_t 9 [.ref h_t_now, .ref h_t_read, .ref h_t_past, .int q_17.1, .ref h_t_text, .int t_letters, .int q_1.2.1, .ref h_t_part, .int t_size, .ref h_t_matrix, .ref h_t_power, .ref h_t_product, .ref h_t_poly, .ref h_t_old, .ref h_t_step, .ref h_t_column, .ref h_t_moved, .ref h_t_traces, .ref h_t_signed, .ref h_t_plus, .ref h_t_minus, .ref h_t_walk], aI g h_t_now 29 r_22, aI g h_t_read 29 q_1.2.2, aI g h_t_past 232 q_17.2, aI g h_t_text 60 a_t_text] H → va_D A [ob h_t 9 [.ref h_t_now, .ref h_t_read, .ref h_t_past, .int q_17.1, .ref h_t_text, .int t_letters, .int q_1.2.1, .ref h_t_part, .int t_size, .ref h_t_matrix, .ref h_t_power, .ref h_t_product, .ref h_t_poly, .ref h_t_old, .ref h_t_step, .ref h_t_column, .ref h_t_moved, .ref h_t_traces, .ref h_t_signed, .ref h_t_plus, .ref h_t_minus, .ref h_t_walk], aI g h_t_now 29 r_22, aI g h_t_read 29 q_1.2.2, aI g h_t_past 232 q_17.2, aI g h_t_text 60 a_t_text] → va_S A s.heap H locs → lv_has ls 3 [(0, .ref h_t)] → W p l e (rmv 4 86) s m args below meth c H locs 0 0 Q (F0 m 46 ls []) := by
      intro H locs ls hP hD hS hl
      refine lv_aload_n hx hb dX9_loadGraph_46 rfl (lv_at hl 0 rfl) ?_
      refine lv_iconst (v := (nI 0)) hx hb dX9_loadGraph_47 (by decide) ?_
      refine w_put cx hP hD hS 0 9 5 rfl rfl (by decide) m_649 rfl rfl rfl (Nat.le_of_ble_eq_true rfl) dX9_loadGraph_48 [ob h_t 9 [.ref h_t_now, .ref h_t_read, .ref h_t_past, .int q_17.1, .ref h_t_text, .int (nI 0), .int q_1.2.1, .ref h_t_part, .int t_size, .ref h_t_matrix, .ref h_t_power, .ref h_t_product, .ref h_t_poly, .ref h_t_old, .ref h_t_step, .ref h_t_column, .ref h_t_moved, .ref h_t_traces, .ref h_t_signed, .ref h_t_plus, .ref h_t_minus, .ref h_t_walk], aI g h_t_now 29 r_22, aI g h_t_read 29 q_1.2.2, aI g h_t_past 232 q_17.2, aI g h_t_text 60 a_t_text] rfl (fun H locs hP hD hS => ?_)
      refine lv_aload_n hx hb dX9_loadGraph_51 rfl (lv_at hl 0 rfl) ?_
      refine w_get cx hP 0 9 0 rfl rfl (by decide) m_644 rfl rfl dX9_loadGraph_52 ?_
      refine lv_iconst (v := (nI 1)) hx hb dX9_loadGraph_55 (by decide) ?_
      obtain ⟨g_56, hM⟩ := gd_some hM
      refine w_iald cx hP 1 rfl g_56 dX9_loadGraph_56 ?_
      obtain rfl := Option.some.inj hM
      exact hfin 57 _ _ _ dX9_loadGraph_57 hP hD hS
    clear hM
    have hL_22 : ∀ (n : Nat) (z_22 : Int32 × (Nat → Int32)), it (b_X9_loadGraph_22 q_1) n z_22 = some r_22 → ∀ (H : Heap) (locs : List Loc) (ls : Array Slot), va_P (gD g) vwCl [ob h_t 9 [.ref h_t_now, .ref h_t_read, .ref h_t_past, .int q_17.1, .ref h_t_text, .int t_letters, .int q_1.2.1, .ref h_t_part, .int t_size, .ref h_t_matrix, .ref h_t_power, .ref h_t_product, .ref h_t_poly, .ref h_t_old, .ref h_t_step, .ref h_t_column, .ref h_t_moved, .ref h_t_traces, .ref h_t_signed, .ref h_t_plus, .ref h_t_minus, .ref h_t_walk], aI g h_t_now 29 z_22.2, aI g h_t_read 29 q_1.2.2, aI g h_t_past 232 q_17.2, aI g h_t_text 60 a_t_text] H → va_D A [ob h_t 9 [.ref h_t_now, .ref h_t_read, .ref h_t_past, .int q_17.1, .ref h_t_text, .int t_letters, .int q_1.2.1, .ref h_t_part, .int t_size, .ref h_t_matrix, .ref h_t_power, .ref h_t_product, .ref h_t_poly, .ref h_t_old, .ref h_t_step, .ref h_t_column, .ref h_t_moved, .ref h_t_traces, .ref h_t_signed, .ref h_t_plus, .ref h_t_minus, .ref h_t_walk], aI g h_t_now 29 z_22.2, aI g h_t_read 29 q_1.2.2, aI g h_t_past 232 q_17.2, aI g h_t_text 60 a_t_text] → va_S A s.heap H locs → lv_has ls 3 [(2, .int z_22.1), (0, .ref h_t)] → W p l e (rmv 4 86) s m args below meth c H locs 0 0 Q (F0 m 22 ls []) := by
      intro n
      induction n with
      | zero => intro z_22 hn; exact (it_zero hn).elim
      | succ n ih =>
        intro z_22 hn H locs ls hP hD hS hl
        obtain ⟨x, hM, hX⟩ := it_succ hn
        clear hn
        refine lv_iload_n hx hb dX9_loadGraph_22 rfl (lv_at hl 0 rfl) ?_
        refine lv_bipush (v := (nI 29)) hx hb dX9_loadGraph_23 (by decide) ?_
        refine lv_icmp_ge (tgt := 46) hx hb dX9_loadGraph_25 (by decide) (fun c_25 => ?_) (fun c_25 => ?_)
        · have hM := if_t hM c_25
          obtain rfl := Option.some.inj hM
          obtain rfl : _ = r_22 := hX
          exact hE_22_0 _ _ _ hP hD hS (lv_sub hl [1] rfl)
        · have hM := if_f hM c_25
          refine lv_aload_n hx hb dX9_loadGraph_28 rfl (lv_at hl 1 rfl) ?_
          refine w_get cx hP 0 9 0 rfl rfl (by decide) m_644 rfl rfl dX9_loadGraph_29 ?_
          refine lv_iload_n hx hb dX9_loadGraph_32 rfl (lv_at hl 0 rfl) ?_
          refine lv_aload_n hx hb dX9_loadGraph_33 rfl (lv_at hl 1 rfl) ?_
          refine w_get cx hP 0 9 1 rfl rfl (by decide) m_645 rfl rfl dX9_loadGraph_34 ?_
          refine lv_iload_n hx hb dX9_loadGraph_37 rfl (lv_at hl 0 rfl) ?_
          obtain ⟨g_38, hM⟩ := gd_some hM
          refine w_iald cx hP 2 rfl g_38 dX9_loadGraph_38 ?_
          obtain ⟨g_39, hM⟩ := gd_some hM
          refine w_iast cx hP hD hS 1 rfl g_39 dX9_loadGraph_39 [ob h_t 9 [.ref h_t_now, .ref h_t_read, .ref h_t_past, .int q_17.1, .ref h_t_text, .int t_letters, .int q_1.2.1, .ref h_t_part, .int t_size, .ref h_t_matrix, .ref h_t_power, .ref h_t_product, .ref h_t_poly, .ref h_t_old, .ref h_t_step, .ref h_t_column, .ref h_t_moved, .ref h_t_traces, .ref h_t_signed, .ref h_t_plus, .ref h_t_minus, .ref h_t_walk], aI g h_t_now 29 (upd z_22.2 z_22.1.toNatClampNeg (q_1.2.2 z_22.1.toNatClampNeg)), aI g h_t_read 29 q_1.2.2, aI g h_t_past 232 q_17.2, aI g h_t_text 60 a_t_text] rfl (fun H locs hP hD hS => ?_)
          refine lv_iinc (v := z_22.1 + (nI 1)) (lv' := [(2, .int (z_22.1 + (nI 1))), (0, .ref h_t)]) hx hb dX9_loadGraph_40 hl (k := 0) rfl (congrArg (fun q => z_22.1 + q) (show Int32.ofInt (1) = (nI 1) by decide)) (by decide) rfl (fun ls hl => ?_)
          refine lv_goto (tgt := 22) hx hb dX9_loadGraph_43 (by decide) ?_
          obtain rfl := Option.some.inj hM
          exact ih _ hX _ _ _ hP hD hS (lv_sub hl [0, 1] rfl)
    exact hL_22 n _ hn _ _ _ hP hD hS (lv_sub hl [0, 2] rfl)
  · have hM := if_f hM c_8
    refine lv_bipush (v := (nI 4294967286)) hx hb dX9_loadGraph_11 (by decide) ?_
    refine lv_iload_n hx hb dX9_loadGraph_13 rfl (lv_at hl 0 rfl) ?_
    refine lv_isub hx hb dX9_loadGraph_14 ?_
    refine lv_topi (fun y_14 ey_14 => ?_)
    have hM := nm_some hM y_14 ey_14
    obtain rfl := Option.some.inj hM
    exact hfin 15 _ _ _ dX9_loadGraph_15 hP hD hS
noncomputable def b_X9_undo_22 (t_saved : Int32) (a_t_past : Nat → Int32) : Int32 × (Nat → Int32) → Option ((Int32 × (Nat → Int32)) ⊕ ((Nat → Int32))) := fun z_22 =>
  if (nI 29) ≤ z_22.1 then some (.inr z_22.2) else gd (inb (((nI 29) * (t_saved - (nI 1))) + z_22.1) 232) (gd (inb z_22.1 29) (some (.inl (z_22.1 + (nI 1), upd z_22.2 z_22.1.toNatClampNeg (a_t_past (((nI 29) * (t_saved - (nI 1))) + z_22.1).toNatClampNeg)))))
noncomputable def f_X9_undo (t_saved : Int32) (t_letters : Int32) (t_stage : Int32) (t_size : Int32) (a_t_now : Nat → Int32) (a_t_past : Nat → Int32) : Option (Int32 × Int32 × (Nat → Int32)) :=
  if t_saved = 0 then some ((nI 4294967294), t_saved, a_t_now) else bd (wh (b_X9_undo_22 t_saved a_t_past) ((nI 0), a_t_now)) (fun (r_22 : Nat → Int32) => some ((t_saved - (nI 1)), (t_saved - (nI 1)), r_22))
theorem yq_X9_undo : yq yX9_undo 0 := by unfold yq; decide +kernel
set_option maxHeartbeats 4000000 in
set_option maxRecDepth 100000 in
theorem c_X9_undo (g : GG) (l : Launch) (h_t : Nat) (h_t_now : Nat) (h_t_read : Nat) (h_t_past : Nat) (h_t_text : Nat) (h_t_part : Nat) (h_t_matrix : Nat) (h_t_power : Nat) (h_t_product : Nat) (h_t_poly : Nat) (h_t_old : Nat) (h_t_step : Nat) (h_t_column : Nat) (h_t_moved : Nat) (h_t_traces : Nat) (h_t_signed : Nat) (h_t_plus : Nat) (h_t_minus : Nat) (h_t_walk : Nat) (t_saved : Int32) (t_letters : Int32) (t_stage : Int32) (t_size : Int32) (a_t_now : Nat → Int32) (a_t_past : Nat → Int32) {R : Int32 × Int32 × (Nat → Int32)} (hM : f_X9_undo t_saved t_letters t_stage t_size a_t_now a_t_past = some R) : CT g l yX9_undo cX9_undo 2 (some .int) 0 0 [.ref h_t] [ob h_t 9 [.ref h_t_now, .ref h_t_read, .ref h_t_past, .int t_saved, .ref h_t_text, .int t_letters, .int t_stage, .ref h_t_part, .int t_size, .ref h_t_matrix, .ref h_t_power, .ref h_t_product, .ref h_t_poly, .ref h_t_old, .ref h_t_step, .ref h_t_column, .ref h_t_moved, .ref h_t_traces, .ref h_t_signed, .ref h_t_plus, .ref h_t_minus, .ref h_t_walk], aI g h_t_now 29 a_t_now, aI g h_t_past 232 a_t_past] [ob h_t 9 [.ref h_t_now, .ref h_t_read, .ref h_t_past, .int R.2.1, .ref h_t_text, .int t_letters, .int t_stage, .ref h_t_part, .int t_size, .ref h_t_matrix, .ref h_t_power, .ref h_t_product, .ref h_t_poly, .ref h_t_old, .ref h_t_step, .ref h_t_column, .ref h_t_moved, .ref h_t_traces, .ref h_t_signed, .ref h_t_plus, .ref h_t_minus, .ref h_t_walk], aI g h_t_now 29 R.2.2, aI g h_t_past 232 a_t_past] (some (.int R.1)) := by
  refine ct_i (by decide +kernel) (Nat.le_of_ble_eq_true rfl) ?_
  intro p e s m args below meth c Q A ls cx hP hD hA hl hfin
  obtain ⟨hx, hb, hml, hown, hts, hK⟩ := id cx
  have hl : lv_has ls 2 [(0, .ref h_t)] := hl
  have hS : va_S A s.heap s.heap [] := va_S.rf
  refine lv_aload_n hx hb dX9_undo_0 rfl (lv_at hl 0 rfl) ?_
  refine w_get cx hP 0 9 3 rfl rfl (by decide) m_647 rfl rfl dX9_undo_1 ?_
  refine lv_if_ne (tgt := 10) hx hb dX9_undo_4 (by decide) (fun c_4 => ?_) (fun c_4 => ?_)
  · have hM := if_f hM c_4
    refine lv_aload_n hx hb dX9_undo_10 rfl (lv_at hl 0 rfl) ?_
    refine lv_dup hx hb dX9_undo_11 rfl ?_
    refine w_get cx hP 0 9 3 rfl rfl (by decide) m_647 rfl rfl dX9_undo_12 ?_
    refine lv_iconst (v := (nI 1)) hx hb dX9_undo_15 (by decide) ?_
    refine lv_isub hx hb dX9_undo_16 ?_
    refine w_put cx hP hD hS 0 9 3 rfl rfl (by decide) m_647 rfl rfl rfl (Nat.le_of_ble_eq_true rfl) dX9_undo_17 [ob h_t 9 [.ref h_t_now, .ref h_t_read, .ref h_t_past, .int (t_saved - (nI 1)), .ref h_t_text, .int t_letters, .int t_stage, .ref h_t_part, .int t_size, .ref h_t_matrix, .ref h_t_power, .ref h_t_product, .ref h_t_poly, .ref h_t_old, .ref h_t_step, .ref h_t_column, .ref h_t_moved, .ref h_t_traces, .ref h_t_signed, .ref h_t_plus, .ref h_t_minus, .ref h_t_walk], aI g h_t_now 29 a_t_now, aI g h_t_past 232 a_t_past] rfl (fun H locs hP hD hS => ?_)
    refine lv_iconst (v := (nI 0)) hx hb dX9_undo_20 (by decide) ?_
    refine lv_istore_n (lv' := [(1, .int (nI 0)), (0, .ref h_t)]) hx hb dX9_undo_21 rfl hl (by decide) rfl (fun ls hl => ?_)
    obtain ⟨r_22, hw, hM⟩ := bd_some hM
    obtain ⟨n, hn⟩ := wh_some hw
    clear hw
    have hE_22_0 : ∀ (H : Heap) (locs : List Loc) (ls : Array Slot), va_P (gD g) vwCl [ob h_t 9 [.ref h_t_now, .ref h_t_read, .ref h_t_past, .int (t_saved - (nI 1)), .ref h_t_text, .int t_letters, .int t_stage, .ref h_t_part, .int t_size, .ref h_t_matrix, .ref h_t_power, .ref h_t_product, .ref h_t_poly, .ref h_t_old, .ref h_t_step, .ref h_t_column, .ref h_t_moved, .ref h_t_traces, .ref h_t_signed, .ref h_t_plus, .ref h_t_minus, .ref h_t_walk], aI g h_t_now 29 r_22, aI g h_t_past 232 a_t_past] H → va_D A [ob h_t 9 [.ref h_t_now, .ref h_t_read, .ref h_t_past, .int (t_saved - (nI 1)), .ref h_t_text, .int t_letters, .int t_stage, .ref h_t_part, .int t_size, .ref h_t_matrix, .ref h_t_power, .ref h_t_product, .ref h_t_poly, .ref h_t_old, .ref h_t_step, .ref h_t_column, .ref h_t_moved, .ref h_t_traces, .ref h_t_signed, .ref h_t_plus, .ref h_t_minus, .ref h_t_walk], aI g h_t_now 29 r_22, aI g h_t_past 232 a_t_past] → va_S A s.heap H locs → lv_has ls 2 [(0, .ref h_t)] → W p l e (rmv 0 0) s m args below meth c H locs 0 0 Q (F0 m 54 ls []) := by
      intro H locs ls hP hD hS hl
      refine lv_aload_n hx hb dX9_undo_54 rfl (lv_at hl 0 rfl) ?_
      refine w_get cx hP 0 9 3 rfl rfl (by decide) m_647 rfl rfl dX9_undo_55 ?_
      obtain rfl := Option.some.inj hM
      exact hfin 58 _ _ _ dX9_undo_58 hP hD hS
    clear hM
    have hL_22 : ∀ (n : Nat) (z_22 : Int32 × (Nat → Int32)), it (b_X9_undo_22 t_saved a_t_past) n z_22 = some r_22 → ∀ (H : Heap) (locs : List Loc) (ls : Array Slot), va_P (gD g) vwCl [ob h_t 9 [.ref h_t_now, .ref h_t_read, .ref h_t_past, .int (t_saved - (nI 1)), .ref h_t_text, .int t_letters, .int t_stage, .ref h_t_part, .int t_size, .ref h_t_matrix, .ref h_t_power, .ref h_t_product, .ref h_t_poly, .ref h_t_old, .ref h_t_step, .ref h_t_column, .ref h_t_moved, .ref h_t_traces, .ref h_t_signed, .ref h_t_plus, .ref h_t_minus, .ref h_t_walk], aI g h_t_now 29 z_22.2, aI g h_t_past 232 a_t_past] H → va_D A [ob h_t 9 [.ref h_t_now, .ref h_t_read, .ref h_t_past, .int (t_saved - (nI 1)), .ref h_t_text, .int t_letters, .int t_stage, .ref h_t_part, .int t_size, .ref h_t_matrix, .ref h_t_power, .ref h_t_product, .ref h_t_poly, .ref h_t_old, .ref h_t_step, .ref h_t_column, .ref h_t_moved, .ref h_t_traces, .ref h_t_signed, .ref h_t_plus, .ref h_t_minus, .ref h_t_walk], aI g h_t_now 29 z_22.2, aI g h_t_past 232 a_t_past] → va_S A s.heap H locs → lv_has ls 2 [(1, .int z_22.1), (0, .ref h_t)] → W p l e (rmv 0 0) s m args below meth c H locs 0 0 Q (F0 m 22 ls []) := by
      intro n
      induction n with
      | zero => intro z_22 hn; exact (it_zero hn).elim
      | succ n ih =>
        intro z_22 hn H locs ls hP hD hS hl
        obtain ⟨x, hM, hX⟩ := it_succ hn
        clear hn
        refine lv_iload_n hx hb dX9_undo_22 rfl (lv_at hl 0 rfl) ?_
        refine lv_bipush (v := (nI 29)) hx hb dX9_undo_23 (by decide) ?_
        refine lv_icmp_ge (tgt := 54) hx hb dX9_undo_25 (by decide) (fun c_25 => ?_) (fun c_25 => ?_)
        · have hM := if_t hM c_25
          obtain rfl := Option.some.inj hM
          obtain rfl : _ = r_22 := hX
          exact hE_22_0 _ _ _ hP hD hS (lv_sub hl [1] rfl)
        · have hM := if_f hM c_25
          refine lv_aload_n hx hb dX9_undo_28 rfl (lv_at hl 1 rfl) ?_
          refine w_get cx hP 0 9 0 rfl rfl (by decide) m_644 rfl rfl dX9_undo_29 ?_
          refine lv_iload_n hx hb dX9_undo_32 rfl (lv_at hl 0 rfl) ?_
          refine lv_aload_n hx hb dX9_undo_33 rfl (lv_at hl 1 rfl) ?_
          refine w_get cx hP 0 9 2 rfl rfl (by decide) m_646 rfl rfl dX9_undo_34 ?_
          refine lv_bipush (v := (nI 29)) hx hb dX9_undo_37 (by decide) ?_
          refine lv_aload_n hx hb dX9_undo_39 rfl (lv_at hl 1 rfl) ?_
          refine w_get cx hP 0 9 3 rfl rfl (by decide) m_647 rfl rfl dX9_undo_40 ?_
          refine lv_imul hx hb dX9_undo_43 ?_
          refine lv_iload_n hx hb dX9_undo_44 rfl (lv_at hl 0 rfl) ?_
          refine lv_iadd hx hb dX9_undo_45 ?_
          obtain ⟨g_46, hM⟩ := gd_some hM
          refine w_iald cx hP 2 rfl g_46 dX9_undo_46 ?_
          obtain ⟨g_47, hM⟩ := gd_some hM
          refine w_iast cx hP hD hS 1 rfl g_47 dX9_undo_47 [ob h_t 9 [.ref h_t_now, .ref h_t_read, .ref h_t_past, .int (t_saved - (nI 1)), .ref h_t_text, .int t_letters, .int t_stage, .ref h_t_part, .int t_size, .ref h_t_matrix, .ref h_t_power, .ref h_t_product, .ref h_t_poly, .ref h_t_old, .ref h_t_step, .ref h_t_column, .ref h_t_moved, .ref h_t_traces, .ref h_t_signed, .ref h_t_plus, .ref h_t_minus, .ref h_t_walk], aI g h_t_now 29 (upd z_22.2 z_22.1.toNatClampNeg (a_t_past (((nI 29) * (t_saved - (nI 1))) + z_22.1).toNatClampNeg)), aI g h_t_past 232 a_t_past] rfl (fun H locs hP hD hS => ?_)
          refine lv_iinc (v := z_22.1 + (nI 1)) (lv' := [(1, .int (z_22.1 + (nI 1))), (0, .ref h_t)]) hx hb dX9_undo_48 hl (k := 0) rfl (congrArg (fun q => z_22.1 + q) (show Int32.ofInt (1) = (nI 1) by decide)) (by decide) rfl (fun ls hl => ?_)
          refine lv_goto (tgt := 22) hx hb dX9_undo_51 (by decide) ?_
          obtain rfl := Option.some.inj hM
          exact ih _ hX _ _ _ hP hD hS (lv_sub hl [0, 1] rfl)
    exact hL_22 n _ hn _ _ _ hP hD hS (lv_sub hl [0, 1] rfl)
  · have hM := if_t hM c_4
    refine lv_bipush (v := (nI 4294967294)) hx hb dX9_undo_7 (by decide) ?_
    obtain rfl := Option.some.inj hM
    exact hfin 9 _ _ _ dX9_undo_9 hP hD hS
noncomputable def f_X9_vertexCount (t_saved : Int32) (t_letters : Int32) (t_stage : Int32) (t_size : Int32) (a_t_now : Nat → Int32) : Option (Int32) :=
  gd (inb (nI 0) 29) (some (a_t_now (nI 0).toNatClampNeg))
theorem yq_X9_vertexCount : yq yX9_vertexCount 0 := by unfold yq; decide +kernel
set_option maxHeartbeats 4000000 in
set_option maxRecDepth 100000 in
theorem c_X9_vertexCount (g : GG) (l : Launch) (h_t : Nat) (h_t_now : Nat) (h_t_read : Nat) (h_t_past : Nat) (h_t_text : Nat) (h_t_part : Nat) (h_t_matrix : Nat) (h_t_power : Nat) (h_t_product : Nat) (h_t_poly : Nat) (h_t_old : Nat) (h_t_step : Nat) (h_t_column : Nat) (h_t_moved : Nat) (h_t_traces : Nat) (h_t_signed : Nat) (h_t_plus : Nat) (h_t_minus : Nat) (h_t_walk : Nat) (t_saved : Int32) (t_letters : Int32) (t_stage : Int32) (t_size : Int32) (a_t_now : Nat → Int32) {R : Int32} (hM : f_X9_vertexCount t_saved t_letters t_stage t_size a_t_now = some R) : CT g l yX9_vertexCount cX9_vertexCount 1 (some .int) 0 0 [.ref h_t] [ob h_t 9 [.ref h_t_now, .ref h_t_read, .ref h_t_past, .int t_saved, .ref h_t_text, .int t_letters, .int t_stage, .ref h_t_part, .int t_size, .ref h_t_matrix, .ref h_t_power, .ref h_t_product, .ref h_t_poly, .ref h_t_old, .ref h_t_step, .ref h_t_column, .ref h_t_moved, .ref h_t_traces, .ref h_t_signed, .ref h_t_plus, .ref h_t_minus, .ref h_t_walk], aI g h_t_now 29 a_t_now] [ob h_t 9 [.ref h_t_now, .ref h_t_read, .ref h_t_past, .int t_saved, .ref h_t_text, .int t_letters, .int t_stage, .ref h_t_part, .int t_size, .ref h_t_matrix, .ref h_t_power, .ref h_t_product, .ref h_t_poly, .ref h_t_old, .ref h_t_step, .ref h_t_column, .ref h_t_moved, .ref h_t_traces, .ref h_t_signed, .ref h_t_plus, .ref h_t_minus, .ref h_t_walk], aI g h_t_now 29 a_t_now] (some (.int R)) := by
  refine ct_i (by decide +kernel) (Nat.le_of_ble_eq_true rfl) ?_
  intro p e s m args below meth c Q A ls cx hP hD hA hl hfin
  obtain ⟨hx, hb, hml, hown, hts, hK⟩ := id cx
  have hl : lv_has ls 1 [(0, .ref h_t)] := hl
  have hS : va_S A s.heap s.heap [] := va_S.rf
  refine lv_aload_n hx hb dX9_vertexCount_0 rfl (lv_at hl 0 rfl) ?_
  refine w_get cx hP 0 9 0 rfl rfl (by decide) m_644 rfl rfl dX9_vertexCount_1 ?_
  refine lv_iconst (v := (nI 0)) hx hb dX9_vertexCount_4 (by decide) ?_
  obtain ⟨g_5, hM⟩ := gd_some hM
  refine w_iald cx hP 1 rfl g_5 dX9_vertexCount_5 ?_
  obtain rfl := Option.some.inj hM
  exact hfin 6 _ _ _ dX9_vertexCount_6 hP hD hS
noncomputable def f_X9_edgeCount (t_saved : Int32) (t_letters : Int32) (t_stage : Int32) (t_size : Int32) (a_t_now : Nat → Int32) : Option (Int32) :=
  gd (inb (nI 1) 29) (some (a_t_now (nI 1).toNatClampNeg))
theorem yq_X9_edgeCount : yq yX9_edgeCount 0 := by unfold yq; decide +kernel
set_option maxHeartbeats 4000000 in
set_option maxRecDepth 100000 in
theorem c_X9_edgeCount (g : GG) (l : Launch) (h_t : Nat) (h_t_now : Nat) (h_t_read : Nat) (h_t_past : Nat) (h_t_text : Nat) (h_t_part : Nat) (h_t_matrix : Nat) (h_t_power : Nat) (h_t_product : Nat) (h_t_poly : Nat) (h_t_old : Nat) (h_t_step : Nat) (h_t_column : Nat) (h_t_moved : Nat) (h_t_traces : Nat) (h_t_signed : Nat) (h_t_plus : Nat) (h_t_minus : Nat) (h_t_walk : Nat) (t_saved : Int32) (t_letters : Int32) (t_stage : Int32) (t_size : Int32) (a_t_now : Nat → Int32) {R : Int32} (hM : f_X9_edgeCount t_saved t_letters t_stage t_size a_t_now = some R) : CT g l yX9_edgeCount cX9_edgeCount 1 (some .int) 0 0 [.ref h_t] [ob h_t 9 [.ref h_t_now, .ref h_t_read, .ref h_t_past, .int t_saved, .ref h_t_text, .int t_letters, .int t_stage, .ref h_t_part, .int t_size, .ref h_t_matrix, .ref h_t_power, .ref h_t_product, .ref h_t_poly, .ref h_t_old, .ref h_t_step, .ref h_t_column, .ref h_t_moved, .ref h_t_traces, .ref h_t_signed, .ref h_t_plus, .ref h_t_minus, .ref h_t_walk], aI g h_t_now 29 a_t_now] [ob h_t 9 [.ref h_t_now, .ref h_t_read, .ref h_t_past, .int t_saved, .ref h_t_text, .int t_letters, .int t_stage, .ref h_t_part, .int t_size, .ref h_t_matrix, .ref h_t_power, .ref h_t_product, .ref h_t_poly, .ref h_t_old, .ref h_t_step, .ref h_t_column, .ref h_t_moved, .ref h_t_traces, .ref h_t_signed, .ref h_t_plus, .ref h_t_minus, .ref h_t_walk], aI g h_t_now 29 a_t_now] (some (.int R)) := by
  refine ct_i (by decide +kernel) (Nat.le_of_ble_eq_true rfl) ?_
  intro p e s m args below meth c Q A ls cx hP hD hA hl hfin
  obtain ⟨hx, hb, hml, hown, hts, hK⟩ := id cx
  have hl : lv_has ls 1 [(0, .ref h_t)] := hl
  have hS : va_S A s.heap s.heap [] := va_S.rf
  refine lv_aload_n hx hb dX9_edgeCount_0 rfl (lv_at hl 0 rfl) ?_
  refine w_get cx hP 0 9 0 rfl rfl (by decide) m_644 rfl rfl dX9_edgeCount_1 ?_
  refine lv_iconst (v := (nI 1)) hx hb dX9_edgeCount_4 (by decide) ?_
  obtain ⟨g_5, hM⟩ := gd_some hM
  refine w_iald cx hP 1 rfl g_5 dX9_edgeCount_5 ?_
  obtain rfl := Option.some.inj hM
  exact hfin 6 _ _ _ dX9_edgeCount_6 hP hD hS
noncomputable def f_X9_endOf (p1 : Int32) (p2 : Int32) (t_saved : Int32) (t_letters : Int32) (t_stage : Int32) (t_size : Int32) (a_t_now : Nat → Int32) : Option (Int32) :=
  bd (if (p1 - p1 / (nI 2) * (nI 2)) = 0 then some p2 else some ((nI 1) - p2)) (fun (j_14 : Int32) => gd (inb (((nI 2) + ((nI 3) * (p1 / (nI 2)))) + j_14) 29) (some (a_t_now (((nI 2) + ((nI 3) * (p1 / (nI 2)))) + j_14).toNatClampNeg)))
theorem yq_X9_endOf : yq yX9_endOf 2 := by unfold yq; decide +kernel
set_option maxHeartbeats 4000000 in
set_option maxRecDepth 100000 in
theorem c_X9_endOf (g : GG) (l : Launch) (h_t : Nat) (h_t_now : Nat) (h_t_read : Nat) (h_t_past : Nat) (h_t_text : Nat) (h_t_part : Nat) (h_t_matrix : Nat) (h_t_power : Nat) (h_t_product : Nat) (h_t_poly : Nat) (h_t_old : Nat) (h_t_step : Nat) (h_t_column : Nat) (h_t_moved : Nat) (h_t_traces : Nat) (h_t_signed : Nat) (h_t_plus : Nat) (h_t_minus : Nat) (h_t_walk : Nat) (p1 : Int32) (p2 : Int32) (t_saved : Int32) (t_letters : Int32) (t_stage : Int32) (t_size : Int32) (a_t_now : Nat → Int32) {R : Int32} (hM : f_X9_endOf p1 p2 t_saved t_letters t_stage t_size a_t_now = some R) : CT g l yX9_endOf cX9_endOf 3 (some .int) 0 0 [.ref h_t, .int p1, .int p2] [ob h_t 9 [.ref h_t_now, .ref h_t_read, .ref h_t_past, .int t_saved, .ref h_t_text, .int t_letters, .int t_stage, .ref h_t_part, .int t_size, .ref h_t_matrix, .ref h_t_power, .ref h_t_product, .ref h_t_poly, .ref h_t_old, .ref h_t_step, .ref h_t_column, .ref h_t_moved, .ref h_t_traces, .ref h_t_signed, .ref h_t_plus, .ref h_t_minus, .ref h_t_walk], aI g h_t_now 29 a_t_now] [ob h_t 9 [.ref h_t_now, .ref h_t_read, .ref h_t_past, .int t_saved, .ref h_t_text, .int t_letters, .int t_stage, .ref h_t_part, .int t_size, .ref h_t_matrix, .ref h_t_power, .ref h_t_product, .ref h_t_poly, .ref h_t_old, .ref h_t_step, .ref h_t_column, .ref h_t_moved, .ref h_t_traces, .ref h_t_signed, .ref h_t_plus, .ref h_t_minus, .ref h_t_walk], aI g h_t_now 29 a_t_now] (some (.int R)) := by
  refine ct_i (by decide +kernel) (Nat.le_of_ble_eq_true rfl) ?_
  intro p e s m args below meth c Q A ls cx hP hD hA hl hfin
  obtain ⟨hx, hb, hml, hown, hts, hK⟩ := id cx
  have hl : lv_has ls 3 [(0, .ref h_t), (1, .int p1), (2, .int p2)] := hl
  have hS : va_S A s.heap s.heap [] := va_S.rf
  refine lv_aload_n hx hb dX9_endOf_0 rfl (lv_at hl 0 rfl) ?_
  refine w_get cx hP 0 9 0 rfl rfl (by decide) m_644 rfl rfl dX9_endOf_1 ?_
  refine lv_iconst (v := (nI 2)) hx hb dX9_endOf_4 (by decide) ?_
  refine lv_iconst (v := (nI 3)) hx hb dX9_endOf_5 (by decide) ?_
  refine lv_iload_n hx hb dX9_endOf_6 rfl (lv_at hl 1 rfl) ?_
  refine lv_iconst (v := (nI 2)) hx hb dX9_endOf_7 (by decide) ?_
  refine lv_idiv hx hb dX9_endOf_8 (by decide) ?_
  refine lv_imul hx hb dX9_endOf_9 ?_
  refine lv_iadd hx hb dX9_endOf_10 ?_
  refine lv_iload_n hx hb dX9_endOf_11 rfl (lv_at hl 1 rfl) ?_
  refine lv_iconst (v := (nI 2)) hx hb dX9_endOf_12 (by decide) ?_
  refine lv_irem hx hb dX9_endOf_13 (by decide) ?_
  obtain ⟨j_14, hB, hM⟩ := bd_some hM
  have hJ_14 : ∀ (H : Heap) (locs : List Loc) (ls : Array Slot), va_P (gD g) vwCl [ob h_t 9 [.ref h_t_now, .ref h_t_read, .ref h_t_past, .int t_saved, .ref h_t_text, .int t_letters, .int t_stage, .ref h_t_part, .int t_size, .ref h_t_matrix, .ref h_t_power, .ref h_t_product, .ref h_t_poly, .ref h_t_old, .ref h_t_step, .ref h_t_column, .ref h_t_moved, .ref h_t_traces, .ref h_t_signed, .ref h_t_plus, .ref h_t_minus, .ref h_t_walk], aI g h_t_now 29 a_t_now] H → va_D A [ob h_t 9 [.ref h_t_now, .ref h_t_read, .ref h_t_past, .int t_saved, .ref h_t_text, .int t_letters, .int t_stage, .ref h_t_part, .int t_size, .ref h_t_matrix, .ref h_t_power, .ref h_t_product, .ref h_t_poly, .ref h_t_old, .ref h_t_step, .ref h_t_column, .ref h_t_moved, .ref h_t_traces, .ref h_t_signed, .ref h_t_plus, .ref h_t_minus, .ref h_t_walk], aI g h_t_now 29 a_t_now] → va_S A s.heap H locs → lv_has ls 3 [] → W p l e (rmv 0 0) s m args below meth c H locs 0 0 Q (F0 m 24 ls [.int j_14, .int ((nI 2) + ((nI 3) * (p1 / (nI 2)))), .ref h_t_now]) := by
    intro H locs ls hP hD hS hl
    refine lv_iadd hx hb dX9_endOf_24 ?_
    obtain ⟨g_25, hM⟩ := gd_some hM
    refine w_iald cx hP 1 rfl g_25 dX9_endOf_25 ?_
    obtain rfl := Option.some.inj hM
    exact hfin 26 _ _ _ dX9_endOf_26 hP hD hS
  clear hM
  have hM := hB
  clear hB
  refine lv_if_ne (tgt := 21) hx hb dX9_endOf_14 (by decide) (fun c_14 => ?_) (fun c_14 => ?_)
  · have hM := if_f hM c_14
    refine lv_iconst (v := (nI 1)) hx hb dX9_endOf_21 (by decide) ?_
    refine lv_iload_n hx hb dX9_endOf_22 rfl (lv_at hl 2 rfl) ?_
    refine lv_isub hx hb dX9_endOf_23 ?_
    obtain rfl := Option.some.inj hM
    exact hJ_14 _ _ _ hP hD hS (lv_sub hl [] rfl)
  · have hM := if_t hM c_14
    refine lv_iload_n hx hb dX9_endOf_17 rfl (lv_at hl 2 rfl) ?_
    refine lv_goto (tgt := 24) hx hb dX9_endOf_18 (by decide) ?_
    obtain rfl := Option.some.inj hM
    exact hJ_14 _ _ _ hP hD hS (lv_sub hl [] rfl)
noncomputable def f_X9_signOf (p1 : Int32) (t_saved : Int32) (t_letters : Int32) (t_stage : Int32) (t_size : Int32) (a_t_now : Nat → Int32) : Option (Int32) :=
  gd (inb (((nI 2) + ((nI 3) * (p1 / (nI 2)))) + (nI 2)) 29) (some (a_t_now (((nI 2) + ((nI 3) * (p1 / (nI 2)))) + (nI 2)).toNatClampNeg))
theorem yq_X9_signOf : yq yX9_signOf 1 := by unfold yq; decide +kernel
set_option maxHeartbeats 4000000 in
set_option maxRecDepth 100000 in
theorem c_X9_signOf (g : GG) (l : Launch) (h_t : Nat) (h_t_now : Nat) (h_t_read : Nat) (h_t_past : Nat) (h_t_text : Nat) (h_t_part : Nat) (h_t_matrix : Nat) (h_t_power : Nat) (h_t_product : Nat) (h_t_poly : Nat) (h_t_old : Nat) (h_t_step : Nat) (h_t_column : Nat) (h_t_moved : Nat) (h_t_traces : Nat) (h_t_signed : Nat) (h_t_plus : Nat) (h_t_minus : Nat) (h_t_walk : Nat) (p1 : Int32) (t_saved : Int32) (t_letters : Int32) (t_stage : Int32) (t_size : Int32) (a_t_now : Nat → Int32) {R : Int32} (hM : f_X9_signOf p1 t_saved t_letters t_stage t_size a_t_now = some R) : CT g l yX9_signOf cX9_signOf 2 (some .int) 0 0 [.ref h_t, .int p1] [ob h_t 9 [.ref h_t_now, .ref h_t_read, .ref h_t_past, .int t_saved, .ref h_t_text, .int t_letters, .int t_stage, .ref h_t_part, .int t_size, .ref h_t_matrix, .ref h_t_power, .ref h_t_product, .ref h_t_poly, .ref h_t_old, .ref h_t_step, .ref h_t_column, .ref h_t_moved, .ref h_t_traces, .ref h_t_signed, .ref h_t_plus, .ref h_t_minus, .ref h_t_walk], aI g h_t_now 29 a_t_now] [ob h_t 9 [.ref h_t_now, .ref h_t_read, .ref h_t_past, .int t_saved, .ref h_t_text, .int t_letters, .int t_stage, .ref h_t_part, .int t_size, .ref h_t_matrix, .ref h_t_power, .ref h_t_product, .ref h_t_poly, .ref h_t_old, .ref h_t_step, .ref h_t_column, .ref h_t_moved, .ref h_t_traces, .ref h_t_signed, .ref h_t_plus, .ref h_t_minus, .ref h_t_walk], aI g h_t_now 29 a_t_now] (some (.int R)) := by
  refine ct_i (by decide +kernel) (Nat.le_of_ble_eq_true rfl) ?_
  intro p e s m args below meth c Q A ls cx hP hD hA hl hfin
  obtain ⟨hx, hb, hml, hown, hts, hK⟩ := id cx
  have hl : lv_has ls 2 [(0, .ref h_t), (1, .int p1)] := hl
  have hS : va_S A s.heap s.heap [] := va_S.rf
  refine lv_aload_n hx hb dX9_signOf_0 rfl (lv_at hl 0 rfl) ?_
  refine w_get cx hP 0 9 0 rfl rfl (by decide) m_644 rfl rfl dX9_signOf_1 ?_
  refine lv_iconst (v := (nI 2)) hx hb dX9_signOf_4 (by decide) ?_
  refine lv_iconst (v := (nI 3)) hx hb dX9_signOf_5 (by decide) ?_
  refine lv_iload_n hx hb dX9_signOf_6 rfl (lv_at hl 1 rfl) ?_
  refine lv_iconst (v := (nI 2)) hx hb dX9_signOf_7 (by decide) ?_
  refine lv_idiv hx hb dX9_signOf_8 (by decide) ?_
  refine lv_imul hx hb dX9_signOf_9 ?_
  refine lv_iadd hx hb dX9_signOf_10 ?_
  refine lv_iconst (v := (nI 2)) hx hb dX9_signOf_11 (by decide) ?_
  refine lv_iadd hx hb dX9_signOf_12 ?_
  obtain ⟨g_13, hM⟩ := gd_some hM
  refine w_iald cx hP 1 rfl g_13 dX9_signOf_13 ?_
  obtain rfl := Option.some.inj hM
  exact hfin 14 _ _ _ dX9_signOf_14 hP hD hS
noncomputable def f_X9_isNext (p1 : Int32) (p2 : Int32) (t_saved : Int32) (t_letters : Int32) (t_stage : Int32) (t_size : Int32) (a_t_now : Nat → Int32) : Option (Int32) :=
  bd (f_X9_endOf p1 (nI 1) t_saved t_letters t_stage t_size a_t_now) (fun (q_3 : Int32) => bd (f_X9_endOf p2 (nI 0) t_saved t_letters t_stage t_size a_t_now) (fun (q_9 : Int32) => if q_3 = q_9 then if p2 = (p1 ^^^ (nI 1)) then some (nI 0) else some (nI 1) else some (nI 0)))
theorem yq_X9_isNext : yq yX9_isNext 2 := by unfold yq; decide +kernel
set_option maxHeartbeats 4000000 in
set_option maxRecDepth 100000 in
theorem c_X9_isNext (g : GG) (l : Launch) (h_t : Nat) (h_t_now : Nat) (h_t_read : Nat) (h_t_past : Nat) (h_t_text : Nat) (h_t_part : Nat) (h_t_matrix : Nat) (h_t_power : Nat) (h_t_product : Nat) (h_t_poly : Nat) (h_t_old : Nat) (h_t_step : Nat) (h_t_column : Nat) (h_t_moved : Nat) (h_t_traces : Nat) (h_t_signed : Nat) (h_t_plus : Nat) (h_t_minus : Nat) (h_t_walk : Nat) (p1 : Int32) (p2 : Int32) (t_saved : Int32) (t_letters : Int32) (t_stage : Int32) (t_size : Int32) (a_t_now : Nat → Int32) {R : Int32} (hM : f_X9_isNext p1 p2 t_saved t_letters t_stage t_size a_t_now = some R) : CT g l yX9_isNext cX9_isNext 3 (some .boolean) 1 22 [.ref h_t, .int p1, .int p2] [ob h_t 9 [.ref h_t_now, .ref h_t_read, .ref h_t_past, .int t_saved, .ref h_t_text, .int t_letters, .int t_stage, .ref h_t_part, .int t_size, .ref h_t_matrix, .ref h_t_power, .ref h_t_product, .ref h_t_poly, .ref h_t_old, .ref h_t_step, .ref h_t_column, .ref h_t_moved, .ref h_t_traces, .ref h_t_signed, .ref h_t_plus, .ref h_t_minus, .ref h_t_walk], aI g h_t_now 29 a_t_now] [ob h_t 9 [.ref h_t_now, .ref h_t_read, .ref h_t_past, .int t_saved, .ref h_t_text, .int t_letters, .int t_stage, .ref h_t_part, .int t_size, .ref h_t_matrix, .ref h_t_power, .ref h_t_product, .ref h_t_poly, .ref h_t_old, .ref h_t_step, .ref h_t_column, .ref h_t_moved, .ref h_t_traces, .ref h_t_signed, .ref h_t_plus, .ref h_t_minus, .ref h_t_walk], aI g h_t_now 29 a_t_now] (some (.int R)) := by
  refine ct_z (by decide +kernel) (Nat.le_of_ble_eq_true rfl) ?_
  intro p e s m args below meth c Q A ls cx hP hD hA hl hfin
  obtain ⟨hx, hb, hml, hown, hts, hK⟩ := id cx
  have hl : lv_has ls 3 [(0, .ref h_t), (1, .int p1), (2, .int p2)] := hl
  have hS : va_S A s.heap s.heap [] := va_S.rf
  refine lv_aload_n hx hb dX9_isNext_0 rfl (lv_at hl 0 rfl) ?_
  refine lv_iload_n hx hb dX9_isNext_1 rfl (lv_at hl 1 rfl) ?_
  refine lv_iconst (v := (nI 1)) hx hb dX9_isNext_2 (by decide) ?_
  obtain ⟨q_3, hc_3, hM⟩ := bd_some hM
  refine w_callV cx hP hD hS hA (c_X9_endOf g l h_t h_t_now h_t_read h_t_past h_t_text h_t_part h_t_matrix h_t_power h_t_product h_t_poly h_t_old h_t_step h_t_column h_t_moved h_t_traces h_t_signed h_t_plus h_t_minus h_t_walk p1 (nI 1) t_saved t_letters t_stage t_size a_t_now hc_3) [0, 1] rfl (by decide) rfl [ob h_t 9 [.ref h_t_now, .ref h_t_read, .ref h_t_past, .int t_saved, .ref h_t_text, .int t_letters, .int t_stage, .ref h_t_part, .int t_size, .ref h_t_matrix, .ref h_t_power, .ref h_t_product, .ref h_t_poly, .ref h_t_old, .ref h_t_step, .ref h_t_column, .ref h_t_moved, .ref h_t_traces, .ref h_t_signed, .ref h_t_plus, .ref h_t_minus, .ref h_t_walk], aI g h_t_now 29 a_t_now] rfl 0 9 rfl rfl yq_X9_endOf rfl m_782 m_784 m_22 m_51 m_785 ⟨Nat.le_of_ble_eq_true rfl, Nat.le_of_ble_eq_true rfl⟩ rfl rfl hl.1 (Nat.le_of_ble_eq_true rfl) dX9_isNext_3 ⟨Nat.le_refl 0, Nat.le_refl 0⟩ rfl (fun H locs hP hD hS => ?_)
  refine lv_aload_n hx hb dX9_isNext_6 rfl (lv_at hl 0 rfl) ?_
  refine lv_iload_n hx hb dX9_isNext_7 rfl (lv_at hl 2 rfl) ?_
  refine lv_iconst (v := (nI 0)) hx hb dX9_isNext_8 (by decide) ?_
  obtain ⟨q_9, hc_9, hM⟩ := bd_some hM
  refine w_callV cx hP hD hS hA (c_X9_endOf g l h_t h_t_now h_t_read h_t_past h_t_text h_t_part h_t_matrix h_t_power h_t_product h_t_poly h_t_old h_t_step h_t_column h_t_moved h_t_traces h_t_signed h_t_plus h_t_minus h_t_walk p2 (nI 0) t_saved t_letters t_stage t_size a_t_now hc_9) [0, 1] rfl (by decide) rfl [ob h_t 9 [.ref h_t_now, .ref h_t_read, .ref h_t_past, .int t_saved, .ref h_t_text, .int t_letters, .int t_stage, .ref h_t_part, .int t_size, .ref h_t_matrix, .ref h_t_power, .ref h_t_product, .ref h_t_poly, .ref h_t_old, .ref h_t_step, .ref h_t_column, .ref h_t_moved, .ref h_t_traces, .ref h_t_signed, .ref h_t_plus, .ref h_t_minus, .ref h_t_walk], aI g h_t_now 29 a_t_now] rfl 0 9 rfl rfl yq_X9_endOf rfl m_782 m_784 m_22 m_51 m_785 ⟨Nat.le_of_ble_eq_true rfl, Nat.le_of_ble_eq_true rfl⟩ rfl rfl hl.1 (Nat.le_of_ble_eq_true rfl) dX9_isNext_9 ⟨Nat.le_refl 0, Nat.le_refl 0⟩ rfl (fun H locs hP hD hS => ?_)
  refine lv_icmp_ne (tgt := 26) hx hb dX9_isNext_12 (by decide) (fun c_12 => ?_) (fun c_12 => ?_)
  · have hM := if_f hM c_12
    refine lv_iconst (v := (nI 0)) hx hb dX9_isNext_26 (by decide) ?_
    have hz : bq (nI 0) = true := by decide
    obtain rfl := Option.some.inj hM
    exact hfin 27 _ _ _ dX9_isNext_27 hz hP hD hS
  · have hM := if_t hM c_12
    refine lv_iload_n hx hb dX9_isNext_15 rfl (lv_at hl 2 rfl) ?_
    refine lv_iload_n hx hb dX9_isNext_16 rfl (lv_at hl 1 rfl) ?_
    refine lv_iconst (v := (nI 1)) hx hb dX9_isNext_17 (by decide) ?_
    refine lv_ixor hx hb dX9_isNext_18 ?_
    refine lv_icmp_eq (tgt := 26) hx hb dX9_isNext_19 (by decide) (fun c_19 => ?_) (fun c_19 => ?_)
    · have hM := if_t hM c_19
      refine lv_iconst (v := (nI 0)) hx hb dX9_isNext_26 (by decide) ?_
      have hz : bq (nI 0) = true := by decide
      obtain rfl := Option.some.inj hM
      exact hfin 27 _ _ _ dX9_isNext_27 hz hP hD hS
    · have hM := if_f hM c_19
      refine lv_iconst (v := (nI 1)) hx hb dX9_isNext_22 (by decide) ?_
      refine lv_goto (tgt := 27) hx hb dX9_isNext_23 (by decide) ?_
      have hz : bq (nI 1) = true := by decide
      obtain rfl := Option.some.inj hM
      exact hfin 27 _ _ _ dX9_isNext_27 hz hP hD hS
noncomputable def f_X9_headOf (p1 : Int32) (t_saved : Int32) (t_letters : Int32) (t_stage : Int32) (t_size : Int32) (a_t_now : Nat → Int32) : Option (Int32) :=
  bd (f_X9_isDirected p1 t_saved t_letters t_stage t_size a_t_now) (fun (q_2 : Int32) => if q_2 = 0 then some (nI 4294967295) else bd (f_X9_endOf p1 (nI 1) t_saved t_letters t_stage t_size a_t_now) (fun (q_11 : Int32) => some q_11))
theorem yq_X9_headOf : yq yX9_headOf 1 := by unfold yq; decide +kernel
set_option maxHeartbeats 4000000 in
set_option maxRecDepth 100000 in
theorem c_X9_headOf (g : GG) (l : Launch) (h_t : Nat) (h_t_now : Nat) (h_t_read : Nat) (h_t_past : Nat) (h_t_text : Nat) (h_t_part : Nat) (h_t_matrix : Nat) (h_t_power : Nat) (h_t_product : Nat) (h_t_poly : Nat) (h_t_old : Nat) (h_t_step : Nat) (h_t_column : Nat) (h_t_moved : Nat) (h_t_traces : Nat) (h_t_signed : Nat) (h_t_plus : Nat) (h_t_minus : Nat) (h_t_walk : Nat) (p1 : Int32) (t_saved : Int32) (t_letters : Int32) (t_stage : Int32) (t_size : Int32) (a_t_now : Nat → Int32) {R : Int32} (hM : f_X9_headOf p1 t_saved t_letters t_stage t_size a_t_now = some R) : CT g l yX9_headOf cX9_headOf 2 (some .int) 2 43 [.ref h_t, .int p1] [ob h_t 9 [.ref h_t_now, .ref h_t_read, .ref h_t_past, .int t_saved, .ref h_t_text, .int t_letters, .int t_stage, .ref h_t_part, .int t_size, .ref h_t_matrix, .ref h_t_power, .ref h_t_product, .ref h_t_poly, .ref h_t_old, .ref h_t_step, .ref h_t_column, .ref h_t_moved, .ref h_t_traces, .ref h_t_signed, .ref h_t_plus, .ref h_t_minus, .ref h_t_walk], aI g h_t_now 29 a_t_now] [ob h_t 9 [.ref h_t_now, .ref h_t_read, .ref h_t_past, .int t_saved, .ref h_t_text, .int t_letters, .int t_stage, .ref h_t_part, .int t_size, .ref h_t_matrix, .ref h_t_power, .ref h_t_product, .ref h_t_poly, .ref h_t_old, .ref h_t_step, .ref h_t_column, .ref h_t_moved, .ref h_t_traces, .ref h_t_signed, .ref h_t_plus, .ref h_t_minus, .ref h_t_walk], aI g h_t_now 29 a_t_now] (some (.int R)) := by
  refine ct_i (by decide +kernel) (Nat.le_of_ble_eq_true rfl) ?_
  intro p e s m args below meth c Q A ls cx hP hD hA hl hfin
  obtain ⟨hx, hb, hml, hown, hts, hK⟩ := id cx
  have hl : lv_has ls 2 [(0, .ref h_t), (1, .int p1)] := hl
  have hS : va_S A s.heap s.heap [] := va_S.rf
  refine lv_aload_n hx hb dX9_headOf_0 rfl (lv_at hl 0 rfl) ?_
  refine lv_iload_n hx hb dX9_headOf_1 rfl (lv_at hl 1 rfl) ?_
  obtain ⟨q_2, hc_2, hM⟩ := bd_some hM
  refine w_callV cx hP hD hS hA (c_X9_isDirected g l h_t h_t_now h_t_read h_t_past h_t_text h_t_part h_t_matrix h_t_power h_t_product h_t_poly h_t_old h_t_step h_t_column h_t_moved h_t_traces h_t_signed h_t_plus h_t_minus h_t_walk p1 t_saved t_letters t_stage t_size a_t_now hc_2) [0, 1] rfl (by decide) rfl [ob h_t 9 [.ref h_t_now, .ref h_t_read, .ref h_t_past, .int t_saved, .ref h_t_text, .int t_letters, .int t_stage, .ref h_t_part, .int t_size, .ref h_t_matrix, .ref h_t_power, .ref h_t_product, .ref h_t_poly, .ref h_t_old, .ref h_t_step, .ref h_t_column, .ref h_t_moved, .ref h_t_traces, .ref h_t_signed, .ref h_t_plus, .ref h_t_minus, .ref h_t_walk], aI g h_t_now 29 a_t_now] rfl 0 9 rfl rfl yq_X9_isDirected rfl m_778 m_780 m_21 m_51 m_781 ⟨Nat.le_of_ble_eq_true rfl, Nat.le_of_ble_eq_true rfl⟩ rfl rfl hl.1 (Nat.le_of_ble_eq_true rfl) dX9_headOf_2 ⟨Nat.le_refl 0, Nat.le_refl 0⟩ rfl (fun H locs hP hD hS => ?_)
  refine lv_if_eq (tgt := 17) hx hb dX9_headOf_5 (by decide) (fun c_5 => ?_) (fun c_5 => ?_)
  · have hM := if_t hM c_5
    refine lv_iconst (v := (nI 4294967295)) hx hb dX9_headOf_17 (by decide) ?_
    obtain rfl := Option.some.inj hM
    exact hfin 18 _ _ _ dX9_headOf_18 hP hD hS
  · have hM := if_f hM c_5
    refine lv_aload_n hx hb dX9_headOf_8 rfl (lv_at hl 0 rfl) ?_
    refine lv_iload_n hx hb dX9_headOf_9 rfl (lv_at hl 1 rfl) ?_
    refine lv_iconst (v := (nI 1)) hx hb dX9_headOf_10 (by decide) ?_
    obtain ⟨q_11, hc_11, hM⟩ := bd_some hM
    refine w_callV cx hP hD hS hA (c_X9_endOf g l h_t h_t_now h_t_read h_t_past h_t_text h_t_part h_t_matrix h_t_power h_t_product h_t_poly h_t_old h_t_step h_t_column h_t_moved h_t_traces h_t_signed h_t_plus h_t_minus h_t_walk p1 (nI 1) t_saved t_letters t_stage t_size a_t_now hc_11) [0, 1] rfl (by decide) rfl [ob h_t 9 [.ref h_t_now, .ref h_t_read, .ref h_t_past, .int t_saved, .ref h_t_text, .int t_letters, .int t_stage, .ref h_t_part, .int t_size, .ref h_t_matrix, .ref h_t_power, .ref h_t_product, .ref h_t_poly, .ref h_t_old, .ref h_t_step, .ref h_t_column, .ref h_t_moved, .ref h_t_traces, .ref h_t_signed, .ref h_t_plus, .ref h_t_minus, .ref h_t_walk], aI g h_t_now 29 a_t_now] rfl 0 9 rfl rfl yq_X9_endOf rfl m_782 m_784 m_22 m_51 m_785 ⟨Nat.le_of_ble_eq_true rfl, Nat.le_of_ble_eq_true rfl⟩ rfl rfl hl.1 (Nat.le_of_ble_eq_true rfl) dX9_headOf_11 ⟨Nat.le_refl 0, Nat.le_refl 0⟩ rfl (fun H locs hP hD hS => ?_)
    refine lv_goto (tgt := 18) hx hb dX9_headOf_14 (by decide) ?_
    obtain rfl := Option.some.inj hM
    exact hfin 18 _ _ _ dX9_headOf_18 hP hD hS
noncomputable def f_X9_follows (p1 : Int32) (p2 : Int32) (t_saved : Int32) (t_letters : Int32) (t_stage : Int32) (t_size : Int32) (a_t_now : Nat → Int32) : Option (Int32) :=
  bd (f_X9_isDirected p1 t_saved t_letters t_stage t_size a_t_now) (fun (q_2 : Int32) => if q_2 = 0 then some (nI 4294967295) else bd (f_X9_isDirected p2 t_saved t_letters t_stage t_size a_t_now) (fun (q_10 : Int32) => if q_10 = 0 then some (nI 4294967295) else bd (f_X9_isNext p1 p2 t_saved t_letters t_stage t_size a_t_now) (fun (q_21 : Int32) => if q_21 = 0 then some (nI 0) else some (nI 1))))
theorem yq_X9_follows : yq yX9_follows 2 := by unfold yq; decide +kernel
set_option maxHeartbeats 4000000 in
set_option maxRecDepth 100000 in
theorem c_X9_follows (g : GG) (l : Launch) (h_t : Nat) (h_t_now : Nat) (h_t_read : Nat) (h_t_past : Nat) (h_t_text : Nat) (h_t_part : Nat) (h_t_matrix : Nat) (h_t_power : Nat) (h_t_product : Nat) (h_t_poly : Nat) (h_t_old : Nat) (h_t_step : Nat) (h_t_column : Nat) (h_t_moved : Nat) (h_t_traces : Nat) (h_t_signed : Nat) (h_t_plus : Nat) (h_t_minus : Nat) (h_t_walk : Nat) (p1 : Int32) (p2 : Int32) (t_saved : Int32) (t_letters : Int32) (t_stage : Int32) (t_size : Int32) (a_t_now : Nat → Int32) {R : Int32} (hM : f_X9_follows p1 p2 t_saved t_letters t_stage t_size a_t_now = some R) : CT g l yX9_follows cX9_follows 3 (some .int) 2 44 [.ref h_t, .int p1, .int p2] [ob h_t 9 [.ref h_t_now, .ref h_t_read, .ref h_t_past, .int t_saved, .ref h_t_text, .int t_letters, .int t_stage, .ref h_t_part, .int t_size, .ref h_t_matrix, .ref h_t_power, .ref h_t_product, .ref h_t_poly, .ref h_t_old, .ref h_t_step, .ref h_t_column, .ref h_t_moved, .ref h_t_traces, .ref h_t_signed, .ref h_t_plus, .ref h_t_minus, .ref h_t_walk], aI g h_t_now 29 a_t_now] [ob h_t 9 [.ref h_t_now, .ref h_t_read, .ref h_t_past, .int t_saved, .ref h_t_text, .int t_letters, .int t_stage, .ref h_t_part, .int t_size, .ref h_t_matrix, .ref h_t_power, .ref h_t_product, .ref h_t_poly, .ref h_t_old, .ref h_t_step, .ref h_t_column, .ref h_t_moved, .ref h_t_traces, .ref h_t_signed, .ref h_t_plus, .ref h_t_minus, .ref h_t_walk], aI g h_t_now 29 a_t_now] (some (.int R)) := by
  refine ct_i (by decide +kernel) (Nat.le_of_ble_eq_true rfl) ?_
  intro p e s m args below meth c Q A ls cx hP hD hA hl hfin
  obtain ⟨hx, hb, hml, hown, hts, hK⟩ := id cx
  have hl : lv_has ls 3 [(0, .ref h_t), (1, .int p1), (2, .int p2)] := hl
  have hS : va_S A s.heap s.heap [] := va_S.rf
  refine lv_aload_n hx hb dX9_follows_0 rfl (lv_at hl 0 rfl) ?_
  refine lv_iload_n hx hb dX9_follows_1 rfl (lv_at hl 1 rfl) ?_
  obtain ⟨q_2, hc_2, hM⟩ := bd_some hM
  refine w_callV cx hP hD hS hA (c_X9_isDirected g l h_t h_t_now h_t_read h_t_past h_t_text h_t_part h_t_matrix h_t_power h_t_product h_t_poly h_t_old h_t_step h_t_column h_t_moved h_t_traces h_t_signed h_t_plus h_t_minus h_t_walk p1 t_saved t_letters t_stage t_size a_t_now hc_2) [0, 1] rfl (by decide) rfl [ob h_t 9 [.ref h_t_now, .ref h_t_read, .ref h_t_past, .int t_saved, .ref h_t_text, .int t_letters, .int t_stage, .ref h_t_part, .int t_size, .ref h_t_matrix, .ref h_t_power, .ref h_t_product, .ref h_t_poly, .ref h_t_old, .ref h_t_step, .ref h_t_column, .ref h_t_moved, .ref h_t_traces, .ref h_t_signed, .ref h_t_plus, .ref h_t_minus, .ref h_t_walk], aI g h_t_now 29 a_t_now] rfl 0 9 rfl rfl yq_X9_isDirected rfl m_778 m_780 m_21 m_51 m_781 ⟨Nat.le_of_ble_eq_true rfl, Nat.le_of_ble_eq_true rfl⟩ rfl rfl hl.1 (Nat.le_of_ble_eq_true rfl) dX9_follows_2 ⟨Nat.le_refl 0, Nat.le_refl 0⟩ rfl (fun H locs hP hD hS => ?_)
  refine lv_if_eq (tgt := 16) hx hb dX9_follows_5 (by decide) (fun c_5 => ?_) (fun c_5 => ?_)
  · have hM := if_t hM c_5
    refine lv_iconst (v := (nI 4294967295)) hx hb dX9_follows_16 (by decide) ?_
    obtain rfl := Option.some.inj hM
    exact hfin 17 _ _ _ dX9_follows_17 hP hD hS
  · have hM := if_f hM c_5
    refine lv_aload_n hx hb dX9_follows_8 rfl (lv_at hl 0 rfl) ?_
    refine lv_iload_n hx hb dX9_follows_9 rfl (lv_at hl 2 rfl) ?_
    obtain ⟨q_10, hc_10, hM⟩ := bd_some hM
    refine w_callV cx hP hD hS hA (c_X9_isDirected g l h_t h_t_now h_t_read h_t_past h_t_text h_t_part h_t_matrix h_t_power h_t_product h_t_poly h_t_old h_t_step h_t_column h_t_moved h_t_traces h_t_signed h_t_plus h_t_minus h_t_walk p2 t_saved t_letters t_stage t_size a_t_now hc_10) [0, 1] rfl (by decide) rfl [ob h_t 9 [.ref h_t_now, .ref h_t_read, .ref h_t_past, .int t_saved, .ref h_t_text, .int t_letters, .int t_stage, .ref h_t_part, .int t_size, .ref h_t_matrix, .ref h_t_power, .ref h_t_product, .ref h_t_poly, .ref h_t_old, .ref h_t_step, .ref h_t_column, .ref h_t_moved, .ref h_t_traces, .ref h_t_signed, .ref h_t_plus, .ref h_t_minus, .ref h_t_walk], aI g h_t_now 29 a_t_now] rfl 0 9 rfl rfl yq_X9_isDirected rfl m_778 m_780 m_21 m_51 m_781 ⟨Nat.le_of_ble_eq_true rfl, Nat.le_of_ble_eq_true rfl⟩ rfl rfl hl.1 (Nat.le_of_ble_eq_true rfl) dX9_follows_10 ⟨Nat.le_refl 0, Nat.le_refl 0⟩ rfl (fun H locs hP hD hS => ?_)
    refine lv_if_ne (tgt := 18) hx hb dX9_follows_13 (by decide) (fun c_13 => ?_) (fun c_13 => ?_)
    · have hM := if_f hM c_13
      refine lv_aload_n hx hb dX9_follows_18 rfl (lv_at hl 0 rfl) ?_
      refine lv_iload_n hx hb dX9_follows_19 rfl (lv_at hl 1 rfl) ?_
      refine lv_iload_n hx hb dX9_follows_20 rfl (lv_at hl 2 rfl) ?_
      obtain ⟨q_21, hc_21, hM⟩ := bd_some hM
      refine w_callV cx hP hD hS hA (c_X9_isNext g l h_t h_t_now h_t_read h_t_past h_t_text h_t_part h_t_matrix h_t_power h_t_product h_t_poly h_t_old h_t_step h_t_column h_t_moved h_t_traces h_t_signed h_t_plus h_t_minus h_t_walk p1 p2 t_saved t_letters t_stage t_size a_t_now hc_21) [0, 1] rfl (by decide) rfl [ob h_t 9 [.ref h_t_now, .ref h_t_read, .ref h_t_past, .int t_saved, .ref h_t_text, .int t_letters, .int t_stage, .ref h_t_part, .int t_size, .ref h_t_matrix, .ref h_t_power, .ref h_t_product, .ref h_t_poly, .ref h_t_old, .ref h_t_step, .ref h_t_column, .ref h_t_moved, .ref h_t_traces, .ref h_t_signed, .ref h_t_plus, .ref h_t_minus, .ref h_t_walk], aI g h_t_now 29 a_t_now] rfl 0 9 rfl rfl yq_X9_isNext rfl m_790 m_792 m_23 m_51 m_793 ⟨Nat.le_of_ble_eq_true rfl, Nat.le_of_ble_eq_true rfl⟩ rfl rfl hl.1 (Nat.le_of_ble_eq_true rfl) dX9_follows_21 ⟨Nat.le_refl 0, Nat.le_refl 0⟩ rfl (fun H locs hP hD hS => ?_)
      refine lv_if_eq (tgt := 31) hx hb dX9_follows_24 (by decide) (fun c_24 => ?_) (fun c_24 => ?_)
      · have hM := if_t hM c_24
        refine lv_iconst (v := (nI 0)) hx hb dX9_follows_31 (by decide) ?_
        obtain rfl := Option.some.inj hM
        exact hfin 32 _ _ _ dX9_follows_32 hP hD hS
      · have hM := if_f hM c_24
        refine lv_iconst (v := (nI 1)) hx hb dX9_follows_27 (by decide) ?_
        refine lv_goto (tgt := 32) hx hb dX9_follows_28 (by decide) ?_
        obtain rfl := Option.some.inj hM
        exact hfin 32 _ _ _ dX9_follows_32 hP hD hS
    · have hM := if_t hM c_13
      refine lv_iconst (v := (nI 4294967295)) hx hb dX9_follows_16 (by decide) ?_
      obtain rfl := Option.some.inj hM
      exact hfin 17 _ _ _ dX9_follows_17 hP hD hS
noncomputable def b_X9_degreeOf_4 (p1 : Int32) (t_saved : Int32) (t_letters : Int32) (t_stage : Int32) (t_size : Int32) (a_t_now : Nat → Int32) : Int32 × Int32 → Option ((Int32 × Int32) ⊕ ((Int32))) := fun z_4 =>
  gd (inb (nI 1) 29) (if ((nI 2) * (a_t_now (nI 1).toNatClampNeg)) ≤ z_4.1 then some (.inr z_4.2) else bd (f_X9_endOf z_4.1 (nI 0) t_saved t_letters t_stage t_size a_t_now) (fun (q_20 : Int32) => bd (if q_20 = p1 then some (nI 1) else some (nI 0)) (fun (j_24 : Int32) => nm (z_4.2 + j_24) (fun (x_33 : Int32) => some (.inl (z_4.1 + (nI 1), x_33))))))
noncomputable def f_X9_degreeOf (p1 : Int32) (t_saved : Int32) (t_letters : Int32) (t_stage : Int32) (t_size : Int32) (a_t_now : Nat → Int32) : Option (Int32) :=
  bd (wh (b_X9_degreeOf_4 p1 t_saved t_letters t_stage t_size a_t_now) ((nI 0), (nI 0))) (fun (r_4 : Int32) => some r_4)
theorem yq_X9_degreeOf : yq yX9_degreeOf 1 := by unfold yq; decide +kernel
set_option maxHeartbeats 4000000 in
set_option maxRecDepth 100000 in
theorem c_X9_degreeOf (g : GG) (l : Launch) (h_t : Nat) (h_t_now : Nat) (h_t_read : Nat) (h_t_past : Nat) (h_t_text : Nat) (h_t_part : Nat) (h_t_matrix : Nat) (h_t_power : Nat) (h_t_product : Nat) (h_t_poly : Nat) (h_t_old : Nat) (h_t_step : Nat) (h_t_column : Nat) (h_t_moved : Nat) (h_t_traces : Nat) (h_t_signed : Nat) (h_t_plus : Nat) (h_t_minus : Nat) (h_t_walk : Nat) (p1 : Int32) (t_saved : Int32) (t_letters : Int32) (t_stage : Int32) (t_size : Int32) (a_t_now : Nat → Int32) {R : Int32} (hM : f_X9_degreeOf p1 t_saved t_letters t_stage t_size a_t_now = some R) : CT g l yX9_degreeOf cX9_degreeOf 4 (some .int) 1 22 [.ref h_t, .int p1] [ob h_t 9 [.ref h_t_now, .ref h_t_read, .ref h_t_past, .int t_saved, .ref h_t_text, .int t_letters, .int t_stage, .ref h_t_part, .int t_size, .ref h_t_matrix, .ref h_t_power, .ref h_t_product, .ref h_t_poly, .ref h_t_old, .ref h_t_step, .ref h_t_column, .ref h_t_moved, .ref h_t_traces, .ref h_t_signed, .ref h_t_plus, .ref h_t_minus, .ref h_t_walk], aI g h_t_now 29 a_t_now] [ob h_t 9 [.ref h_t_now, .ref h_t_read, .ref h_t_past, .int t_saved, .ref h_t_text, .int t_letters, .int t_stage, .ref h_t_part, .int t_size, .ref h_t_matrix, .ref h_t_power, .ref h_t_product, .ref h_t_poly, .ref h_t_old, .ref h_t_step, .ref h_t_column, .ref h_t_moved, .ref h_t_traces, .ref h_t_signed, .ref h_t_plus, .ref h_t_minus, .ref h_t_walk], aI g h_t_now 29 a_t_now] (some (.int R)) := by
  refine ct_i (by decide +kernel) (Nat.le_of_ble_eq_true rfl) ?_
  intro p e s m args below meth c Q A ls cx hP hD hA hl hfin
  obtain ⟨hx, hb, hml, hown, hts, hK⟩ := id cx
  have hl : lv_has ls 4 [(0, .ref h_t), (1, .int p1)] := hl
  have hS : va_S A s.heap s.heap [] := va_S.rf
  refine lv_iconst (v := (nI 0)) hx hb dX9_degreeOf_0 (by decide) ?_
  refine lv_istore_n (lv' := [(2, .int (nI 0)), (0, .ref h_t), (1, .int p1)]) hx hb dX9_degreeOf_1 rfl hl (by decide) rfl (fun ls hl => ?_)
  refine lv_iconst (v := (nI 0)) hx hb dX9_degreeOf_2 (by decide) ?_
  refine lv_istore_n (lv' := [(3, .int (nI 0)), (2, .int (nI 0)), (0, .ref h_t), (1, .int p1)]) hx hb dX9_degreeOf_3 rfl hl (by decide) rfl (fun ls hl => ?_)
  obtain ⟨r_4, hw, hM⟩ := bd_some hM
  obtain ⟨n, hn⟩ := wh_some hw
  clear hw
  have hE_4_0 : ∀ (H : Heap) (locs : List Loc) (ls : Array Slot), va_P (gD g) vwCl [ob h_t 9 [.ref h_t_now, .ref h_t_read, .ref h_t_past, .int t_saved, .ref h_t_text, .int t_letters, .int t_stage, .ref h_t_part, .int t_size, .ref h_t_matrix, .ref h_t_power, .ref h_t_product, .ref h_t_poly, .ref h_t_old, .ref h_t_step, .ref h_t_column, .ref h_t_moved, .ref h_t_traces, .ref h_t_signed, .ref h_t_plus, .ref h_t_minus, .ref h_t_walk], aI g h_t_now 29 a_t_now] H → va_D A [ob h_t 9 [.ref h_t_now, .ref h_t_read, .ref h_t_past, .int t_saved, .ref h_t_text, .int t_letters, .int t_stage, .ref h_t_part, .int t_size, .ref h_t_matrix, .ref h_t_power, .ref h_t_product, .ref h_t_poly, .ref h_t_old, .ref h_t_step, .ref h_t_column, .ref h_t_moved, .ref h_t_traces, .ref h_t_signed, .ref h_t_plus, .ref h_t_minus, .ref h_t_walk], aI g h_t_now 29 a_t_now] → va_S A s.heap H locs → lv_has ls 4 [(2, .int r_4)] → W p l e (rmv 1 22) s m args below meth c H locs 0 0 Q (F0 m 40 ls []) := by
    intro H locs ls hP hD hS hl
    refine lv_iload_n hx hb dX9_degreeOf_40 rfl (lv_at hl 0 rfl) ?_
    obtain rfl := Option.some.inj hM
    exact hfin 41 _ _ _ dX9_degreeOf_41 hP hD hS
  clear hM
  have hL_4 : ∀ (n : Nat) (z_4 : Int32 × Int32), it (b_X9_degreeOf_4 p1 t_saved t_letters t_stage t_size a_t_now) n z_4 = some r_4 → ∀ (H : Heap) (locs : List Loc) (ls : Array Slot), va_P (gD g) vwCl [ob h_t 9 [.ref h_t_now, .ref h_t_read, .ref h_t_past, .int t_saved, .ref h_t_text, .int t_letters, .int t_stage, .ref h_t_part, .int t_size, .ref h_t_matrix, .ref h_t_power, .ref h_t_product, .ref h_t_poly, .ref h_t_old, .ref h_t_step, .ref h_t_column, .ref h_t_moved, .ref h_t_traces, .ref h_t_signed, .ref h_t_plus, .ref h_t_minus, .ref h_t_walk], aI g h_t_now 29 a_t_now] H → va_D A [ob h_t 9 [.ref h_t_now, .ref h_t_read, .ref h_t_past, .int t_saved, .ref h_t_text, .int t_letters, .int t_stage, .ref h_t_part, .int t_size, .ref h_t_matrix, .ref h_t_power, .ref h_t_product, .ref h_t_poly, .ref h_t_old, .ref h_t_step, .ref h_t_column, .ref h_t_moved, .ref h_t_traces, .ref h_t_signed, .ref h_t_plus, .ref h_t_minus, .ref h_t_walk], aI g h_t_now 29 a_t_now] → va_S A s.heap H locs → lv_has ls 4 [(3, .int z_4.1), (2, .int z_4.2), (0, .ref h_t), (1, .int p1)] → W p l e (rmv 1 22) s m args below meth c H locs 0 0 Q (F0 m 4 ls []) := by
    intro n
    induction n with
    | zero => intro z_4 hn; exact (it_zero hn).elim
    | succ n ih =>
      intro z_4 hn H locs ls hP hD hS hl
      obtain ⟨x, hM, hX⟩ := it_succ hn
      clear hn
      refine lv_iload_n hx hb dX9_degreeOf_4 rfl (lv_at hl 0 rfl) ?_
      refine lv_iconst (v := (nI 2)) hx hb dX9_degreeOf_5 (by decide) ?_
      refine lv_aload_n hx hb dX9_degreeOf_6 rfl (lv_at hl 2 rfl) ?_
      refine w_get cx hP 0 9 0 rfl rfl (by decide) m_644 rfl rfl dX9_degreeOf_7 ?_
      refine lv_iconst (v := (nI 1)) hx hb dX9_degreeOf_10 (by decide) ?_
      obtain ⟨g_11, hM⟩ := gd_some hM
      refine w_iald cx hP 1 rfl g_11 dX9_degreeOf_11 ?_
      refine lv_imul hx hb dX9_degreeOf_12 ?_
      refine lv_icmp_ge (tgt := 40) hx hb dX9_degreeOf_13 (by decide) (fun c_13 => ?_) (fun c_13 => ?_)
      · have hM := if_t hM c_13
        obtain rfl := Option.some.inj hM
        obtain rfl : _ = r_4 := hX
        exact hE_4_0 _ _ _ hP hD hS (lv_sub hl [1] rfl)
      · have hM := if_f hM c_13
        refine lv_iload_n hx hb dX9_degreeOf_16 rfl (lv_at hl 1 rfl) ?_
        refine lv_aload_n hx hb dX9_degreeOf_17 rfl (lv_at hl 2 rfl) ?_
        refine lv_iload_n hx hb dX9_degreeOf_18 rfl (lv_at hl 0 rfl) ?_
        refine lv_iconst (v := (nI 0)) hx hb dX9_degreeOf_19 (by decide) ?_
        obtain ⟨q_20, hc_20, hM⟩ := bd_some hM
        refine w_callV cx hP hD hS hA (c_X9_endOf g l h_t h_t_now h_t_read h_t_past h_t_text h_t_part h_t_matrix h_t_power h_t_product h_t_poly h_t_old h_t_step h_t_column h_t_moved h_t_traces h_t_signed h_t_plus h_t_minus h_t_walk z_4.1 (nI 0) t_saved t_letters t_stage t_size a_t_now hc_20) [0, 1] rfl (by decide) rfl [ob h_t 9 [.ref h_t_now, .ref h_t_read, .ref h_t_past, .int t_saved, .ref h_t_text, .int t_letters, .int t_stage, .ref h_t_part, .int t_size, .ref h_t_matrix, .ref h_t_power, .ref h_t_product, .ref h_t_poly, .ref h_t_old, .ref h_t_step, .ref h_t_column, .ref h_t_moved, .ref h_t_traces, .ref h_t_signed, .ref h_t_plus, .ref h_t_minus, .ref h_t_walk], aI g h_t_now 29 a_t_now] rfl 0 9 rfl rfl yq_X9_endOf rfl m_782 m_784 m_22 m_51 m_785 ⟨Nat.le_of_ble_eq_true rfl, Nat.le_of_ble_eq_true rfl⟩ rfl rfl hl.1 (Nat.le_of_ble_eq_true rfl) dX9_degreeOf_20 ⟨Nat.le_refl 0, Nat.le_refl 0⟩ rfl (fun H locs hP hD hS => ?_)
        refine lv_iload_n hx hb dX9_degreeOf_23 rfl (lv_at hl 3 rfl) ?_
        obtain ⟨j_24, hB, hM⟩ := bd_some hM
        have hJ_24 : ∀ (H : Heap) (locs : List Loc) (ls : Array Slot), va_P (gD g) vwCl [ob h_t 9 [.ref h_t_now, .ref h_t_read, .ref h_t_past, .int t_saved, .ref h_t_text, .int t_letters, .int t_stage, .ref h_t_part, .int t_size, .ref h_t_matrix, .ref h_t_power, .ref h_t_product, .ref h_t_poly, .ref h_t_old, .ref h_t_step, .ref h_t_column, .ref h_t_moved, .ref h_t_traces, .ref h_t_signed, .ref h_t_plus, .ref h_t_minus, .ref h_t_walk], aI g h_t_now 29 a_t_now] H → va_D A [ob h_t 9 [.ref h_t_now, .ref h_t_read, .ref h_t_past, .int t_saved, .ref h_t_text, .int t_letters, .int t_stage, .ref h_t_part, .int t_size, .ref h_t_matrix, .ref h_t_power, .ref h_t_product, .ref h_t_poly, .ref h_t_old, .ref h_t_step, .ref h_t_column, .ref h_t_moved, .ref h_t_traces, .ref h_t_signed, .ref h_t_plus, .ref h_t_minus, .ref h_t_walk], aI g h_t_now 29 a_t_now] → va_S A s.heap H locs → lv_has ls 4 [(3, .int z_4.1), (0, .ref h_t), (1, .int p1)] → W p l e (rmv 1 22) s m args below meth c H locs 0 0 Q (F0 m 32 ls [.int j_24, .int z_4.2]) := by
          intro H locs ls hP hD hS hl
          refine lv_iadd hx hb dX9_degreeOf_32 ?_
          refine lv_topi (fun x_33 ex_33 => ?_)
          have hM := nm_some hM x_33 ex_33
          refine lv_istore_n (lv' := [(2, .int x_33), (3, .int z_4.1), (0, .ref h_t), (1, .int p1)]) hx hb dX9_degreeOf_33 rfl hl (by decide) rfl (fun ls hl => ?_)
          refine lv_iinc (v := z_4.1 + (nI 1)) (lv' := [(3, .int (z_4.1 + (nI 1))), (2, .int x_33), (0, .ref h_t), (1, .int p1)]) hx hb dX9_degreeOf_34 hl (k := 1) rfl (congrArg (fun q => z_4.1 + q) (show Int32.ofInt (1) = (nI 1) by decide)) (by decide) rfl (fun ls hl => ?_)
          refine lv_goto (tgt := 4) hx hb dX9_degreeOf_37 (by decide) ?_
          obtain rfl := Option.some.inj hM
          exact ih _ hX _ _ _ hP hD hS (lv_sub hl [0, 1, 2, 3] rfl)
        clear hM
        have hM := hB
        clear hB
        refine lv_icmp_ne (tgt := 31) hx hb dX9_degreeOf_24 (by decide) (fun c_24 => ?_) (fun c_24 => ?_)
        · have hM := if_f hM c_24
          refine lv_iconst (v := (nI 0)) hx hb dX9_degreeOf_31 (by decide) ?_
          obtain rfl := Option.some.inj hM
          exact hJ_24 _ _ _ hP hD hS (lv_sub hl [0, 2, 3] rfl)
        · have hM := if_t hM c_24
          refine lv_iconst (v := (nI 1)) hx hb dX9_degreeOf_27 (by decide) ?_
          refine lv_goto (tgt := 32) hx hb dX9_degreeOf_28 (by decide) ?_
          obtain rfl := Option.some.inj hM
          exact hJ_24 _ _ _ hP hD hS (lv_sub hl [0, 2, 3] rfl)
  exact hL_4 n _ hn _ _ _ hP hD hS (lv_sub hl [0, 1, 2, 3] rfl)
noncomputable def f_X9_degree (p1 : Int32) (t_saved : Int32) (t_letters : Int32) (t_stage : Int32) (t_size : Int32) (a_t_now : Nat → Int32) : Option (Int32) :=
  bd (f_X9_isVertex p1 t_saved t_letters t_stage t_size a_t_now) (fun (q_2 : Int32) => if q_2 = 0 then some (nI 4294967295) else bd (f_X9_degreeOf p1 t_saved t_letters t_stage t_size a_t_now) (fun (q_10 : Int32) => some q_10))
theorem yq_X9_degree : yq yX9_degree 1 := by unfold yq; decide +kernel
set_option maxHeartbeats 4000000 in
set_option maxRecDepth 100000 in
theorem c_X9_degree (g : GG) (l : Launch) (h_t : Nat) (h_t_now : Nat) (h_t_read : Nat) (h_t_past : Nat) (h_t_text : Nat) (h_t_part : Nat) (h_t_matrix : Nat) (h_t_power : Nat) (h_t_product : Nat) (h_t_poly : Nat) (h_t_old : Nat) (h_t_step : Nat) (h_t_column : Nat) (h_t_moved : Nat) (h_t_traces : Nat) (h_t_signed : Nat) (h_t_plus : Nat) (h_t_minus : Nat) (h_t_walk : Nat) (p1 : Int32) (t_saved : Int32) (t_letters : Int32) (t_stage : Int32) (t_size : Int32) (a_t_now : Nat → Int32) {R : Int32} (hM : f_X9_degree p1 t_saved t_letters t_stage t_size a_t_now = some R) : CT g l yX9_degree cX9_degree 2 (some .int) 2 45 [.ref h_t, .int p1] [ob h_t 9 [.ref h_t_now, .ref h_t_read, .ref h_t_past, .int t_saved, .ref h_t_text, .int t_letters, .int t_stage, .ref h_t_part, .int t_size, .ref h_t_matrix, .ref h_t_power, .ref h_t_product, .ref h_t_poly, .ref h_t_old, .ref h_t_step, .ref h_t_column, .ref h_t_moved, .ref h_t_traces, .ref h_t_signed, .ref h_t_plus, .ref h_t_minus, .ref h_t_walk], aI g h_t_now 29 a_t_now] [ob h_t 9 [.ref h_t_now, .ref h_t_read, .ref h_t_past, .int t_saved, .ref h_t_text, .int t_letters, .int t_stage, .ref h_t_part, .int t_size, .ref h_t_matrix, .ref h_t_power, .ref h_t_product, .ref h_t_poly, .ref h_t_old, .ref h_t_step, .ref h_t_column, .ref h_t_moved, .ref h_t_traces, .ref h_t_signed, .ref h_t_plus, .ref h_t_minus, .ref h_t_walk], aI g h_t_now 29 a_t_now] (some (.int R)) := by
  refine ct_i (by decide +kernel) (Nat.le_of_ble_eq_true rfl) ?_
  intro p e s m args below meth c Q A ls cx hP hD hA hl hfin
  obtain ⟨hx, hb, hml, hown, hts, hK⟩ := id cx
  have hl : lv_has ls 2 [(0, .ref h_t), (1, .int p1)] := hl
  have hS : va_S A s.heap s.heap [] := va_S.rf
  refine lv_aload_n hx hb dX9_degree_0 rfl (lv_at hl 0 rfl) ?_
  refine lv_iload_n hx hb dX9_degree_1 rfl (lv_at hl 1 rfl) ?_
  obtain ⟨q_2, hc_2, hM⟩ := bd_some hM
  refine w_callV cx hP hD hS hA (c_X9_isVertex g l h_t h_t_now h_t_read h_t_past h_t_text h_t_part h_t_matrix h_t_power h_t_product h_t_poly h_t_old h_t_step h_t_column h_t_moved h_t_traces h_t_signed h_t_plus h_t_minus h_t_walk p1 t_saved t_letters t_stage t_size a_t_now hc_2) [0, 1] rfl (by decide) rfl [ob h_t 9 [.ref h_t_now, .ref h_t_read, .ref h_t_past, .int t_saved, .ref h_t_text, .int t_letters, .int t_stage, .ref h_t_part, .int t_size, .ref h_t_matrix, .ref h_t_power, .ref h_t_product, .ref h_t_poly, .ref h_t_old, .ref h_t_step, .ref h_t_column, .ref h_t_moved, .ref h_t_traces, .ref h_t_signed, .ref h_t_plus, .ref h_t_minus, .ref h_t_walk], aI g h_t_now 29 a_t_now] rfl 0 9 rfl rfl yq_X9_isVertex rfl m_726 m_728 m_17 m_51 m_729 ⟨Nat.le_of_ble_eq_true rfl, Nat.le_of_ble_eq_true rfl⟩ rfl rfl hl.1 (Nat.le_of_ble_eq_true rfl) dX9_degree_2 ⟨Nat.le_refl 0, Nat.le_refl 0⟩ rfl (fun H locs hP hD hS => ?_)
  refine lv_if_eq (tgt := 16) hx hb dX9_degree_5 (by decide) (fun c_5 => ?_) (fun c_5 => ?_)
  · have hM := if_t hM c_5
    refine lv_iconst (v := (nI 4294967295)) hx hb dX9_degree_16 (by decide) ?_
    obtain rfl := Option.some.inj hM
    exact hfin 17 _ _ _ dX9_degree_17 hP hD hS
  · have hM := if_f hM c_5
    refine lv_aload_n hx hb dX9_degree_8 rfl (lv_at hl 0 rfl) ?_
    refine lv_iload_n hx hb dX9_degree_9 rfl (lv_at hl 1 rfl) ?_
    obtain ⟨q_10, hc_10, hM⟩ := bd_some hM
    refine w_callV cx hP hD hS hA (c_X9_degreeOf g l h_t h_t_now h_t_read h_t_past h_t_text h_t_part h_t_matrix h_t_power h_t_product h_t_poly h_t_old h_t_step h_t_column h_t_moved h_t_traces h_t_signed h_t_plus h_t_minus h_t_walk p1 t_saved t_letters t_stage t_size a_t_now hc_10) [0, 1] rfl (by decide) rfl [ob h_t 9 [.ref h_t_now, .ref h_t_read, .ref h_t_past, .int t_saved, .ref h_t_text, .int t_letters, .int t_stage, .ref h_t_part, .int t_size, .ref h_t_matrix, .ref h_t_power, .ref h_t_product, .ref h_t_poly, .ref h_t_old, .ref h_t_step, .ref h_t_column, .ref h_t_moved, .ref h_t_traces, .ref h_t_signed, .ref h_t_plus, .ref h_t_minus, .ref h_t_walk], aI g h_t_now 29 a_t_now] rfl 0 9 rfl rfl yq_X9_degreeOf rfl m_798 m_800 m_24 m_51 m_801 ⟨Nat.le_of_ble_eq_true rfl, Nat.le_of_ble_eq_true rfl⟩ rfl rfl hl.1 (Nat.le_of_ble_eq_true rfl) dX9_degree_10 ⟨Nat.le_refl 0, Nat.le_refl 0⟩ rfl (fun H locs hP hD hS => ?_)
    refine lv_goto (tgt := 17) hx hb dX9_degree_13 (by decide) ?_
    obtain rfl := Option.some.inj hM
    exact hfin 17 _ _ _ dX9_degree_17 hP hD hS
noncomputable def b_X9_partsNow_90 (a_t_now : Nat → Int32) (x_57 : Int32) (x_71 : Int32) : Int32 × (Nat → Int32) → Option ((Int32 × (Nat → Int32)) ⊕ ((Nat → Int32))) := fun z_90 =>
  gd (inb (nI 0) 29) (if (a_t_now (nI 0).toNatClampNeg) ≤ z_90.1 then some (.inr z_90.2) else gd (inb z_90.1 6) (bd (if (z_90.2 z_90.1.toNatClampNeg) = x_57 then some x_71 else gd (inb z_90.1 6) (some (z_90.2 z_90.1.toNatClampNeg))) (fun (j_115 : Int32) => gd (inb z_90.1 6) (some (.inl (z_90.1 + (nI 1), upd z_90.2 z_90.1.toNatClampNeg j_115))))))
noncomputable def b_X9_partsNow_34 (t_saved : Int32) (t_letters : Int32) (t_stage : Int32) (t_size : Int32) (a_t_now : Nat → Int32) : Int32 × Int32 × (Nat → Int32) → Option ((Int32 × Int32 × (Nat → Int32)) ⊕ ((Int32 × (Nat → Int32)))) := fun z_34 =>
  gd (inb (nI 1) 29) (if (a_t_now (nI 1).toNatClampNeg) ≤ z_34.1 then some (.inr (z_34.2.1, z_34.2.2)) else bd (f_X9_endOf ((nI 2) * z_34.1) (nI 0) t_saved t_letters t_stage t_size a_t_now) (fun (q_53 : Int32) => gd (inb q_53 6) (nm (z_34.2.2 q_53.toNatClampNeg) (fun (x_57 : Int32) => bd (f_X9_endOf ((nI 2) * z_34.1) (nI 1) t_saved t_letters t_stage t_size a_t_now) (fun (q_67 : Int32) => gd (inb q_67 6) (nm (z_34.2.2 q_67.toNatClampNeg) (fun (x_71 : Int32) => bd (if x_57 = x_71 then some (nI 0) else some (nI 1)) (fun (j_77 : Int32) => nm (z_34.2.1 - j_77) (fun (x_86 : Int32) => bd (wh (b_X9_partsNow_90 a_t_now x_57 x_71) ((nI 0), z_34.2.2)) (fun (r_90 : Nat → Int32) => some (.inl (z_34.1 + (nI 1), x_86, r_90))))))))))))
noncomputable def b_X9_partsNow_2 (a_t_now : Nat → Int32) : Int32 × (Nat → Int32) → Option ((Int32 × (Nat → Int32)) ⊕ ((Nat → Int32))) := fun z_2 =>
  gd (inb (nI 0) 29) (if (a_t_now (nI 0).toNatClampNeg) ≤ z_2.1 then some (.inr z_2.2) else gd (inb z_2.1 6) (some (.inl (z_2.1 + (nI 1), upd z_2.2 z_2.1.toNatClampNeg z_2.1))))
noncomputable def f_X9_partsNow (t_saved : Int32) (t_letters : Int32) (t_stage : Int32) (t_size : Int32) (a_t_now : Nat → Int32) (a_t_part : Nat → Int32) : Option (Int32 × (Nat → Int32)) :=
  bd (wh (b_X9_partsNow_2 a_t_now) ((nI 0), a_t_part)) (fun (r_2 : Nat → Int32) => gd (inb (nI 0) 29) (nm (a_t_now (nI 0).toNatClampNeg) (fun (x_31 : Int32) => bd (wh (b_X9_partsNow_34 t_saved t_letters t_stage t_size a_t_now) ((nI 0), x_31, r_2)) (fun (r_34 : Int32 × (Nat → Int32)) => some (r_34.1, r_34.2)))))
theorem yq_X9_partsNow : yq yX9_partsNow 0 := by unfold yq; decide +kernel
set_option maxHeartbeats 4000000 in
set_option maxRecDepth 100000 in
theorem c_X9_partsNow (g : GG) (l : Launch) (h_t : Nat) (h_t_now : Nat) (h_t_read : Nat) (h_t_past : Nat) (h_t_text : Nat) (h_t_part : Nat) (h_t_matrix : Nat) (h_t_power : Nat) (h_t_product : Nat) (h_t_poly : Nat) (h_t_old : Nat) (h_t_step : Nat) (h_t_column : Nat) (h_t_moved : Nat) (h_t_traces : Nat) (h_t_signed : Nat) (h_t_plus : Nat) (h_t_minus : Nat) (h_t_walk : Nat) (t_saved : Int32) (t_letters : Int32) (t_stage : Int32) (t_size : Int32) (a_t_now : Nat → Int32) (a_t_part : Nat → Int32) {R : Int32 × (Nat → Int32)} (hM : f_X9_partsNow t_saved t_letters t_stage t_size a_t_now a_t_part = some R) : CT g l yX9_partsNow cX9_partsNow 6 (some .int) 1 22 [.ref h_t] [ob h_t 9 [.ref h_t_now, .ref h_t_read, .ref h_t_past, .int t_saved, .ref h_t_text, .int t_letters, .int t_stage, .ref h_t_part, .int t_size, .ref h_t_matrix, .ref h_t_power, .ref h_t_product, .ref h_t_poly, .ref h_t_old, .ref h_t_step, .ref h_t_column, .ref h_t_moved, .ref h_t_traces, .ref h_t_signed, .ref h_t_plus, .ref h_t_minus, .ref h_t_walk], aI g h_t_now 29 a_t_now, aI g h_t_part 6 a_t_part] [ob h_t 9 [.ref h_t_now, .ref h_t_read, .ref h_t_past, .int t_saved, .ref h_t_text, .int t_letters, .int t_stage, .ref h_t_part, .int t_size, .ref h_t_matrix, .ref h_t_power, .ref h_t_product, .ref h_t_poly, .ref h_t_old, .ref h_t_step, .ref h_t_column, .ref h_t_moved, .ref h_t_traces, .ref h_t_signed, .ref h_t_plus, .ref h_t_minus, .ref h_t_walk], aI g h_t_now 29 a_t_now, aI g h_t_part 6 R.2] (some (.int R.1)) := by
  refine ct_i (by decide +kernel) (Nat.le_of_ble_eq_true rfl) ?_
  intro p e s m args below meth c Q A ls cx hP hD hA hl hfin
  obtain ⟨hx, hb, hml, hown, hts, hK⟩ := id cx
  have hl : lv_has ls 6 [(0, .ref h_t)] := hl
  have hS : va_S A s.heap s.heap [] := va_S.rf
  refine lv_iconst (v := (nI 0)) hx hb dX9_partsNow_0 (by decide) ?_
  refine lv_istore_n (lv' := [(1, .int (nI 0)), (0, .ref h_t)]) hx hb dX9_partsNow_1 rfl hl (by decide) rfl (fun ls hl => ?_)
  obtain ⟨r_2, hw, hM⟩ := bd_some hM
  obtain ⟨n, hn⟩ := wh_some hw
  clear hw
  have hE_2_0 : ∀ (H : Heap) (locs : List Loc) (ls : Array Slot), va_P (gD g) vwCl [ob h_t 9 [.ref h_t_now, .ref h_t_read, .ref h_t_past, .int t_saved, .ref h_t_text, .int t_letters, .int t_stage, .ref h_t_part, .int t_size, .ref h_t_matrix, .ref h_t_power, .ref h_t_product, .ref h_t_poly, .ref h_t_old, .ref h_t_step, .ref h_t_column, .ref h_t_moved, .ref h_t_traces, .ref h_t_signed, .ref h_t_plus, .ref h_t_minus, .ref h_t_walk], aI g h_t_now 29 a_t_now, aI g h_t_part 6 r_2] H → va_D A [ob h_t 9 [.ref h_t_now, .ref h_t_read, .ref h_t_past, .int t_saved, .ref h_t_text, .int t_letters, .int t_stage, .ref h_t_part, .int t_size, .ref h_t_matrix, .ref h_t_power, .ref h_t_product, .ref h_t_poly, .ref h_t_old, .ref h_t_step, .ref h_t_column, .ref h_t_moved, .ref h_t_traces, .ref h_t_signed, .ref h_t_plus, .ref h_t_minus, .ref h_t_walk], aI g h_t_now 29 a_t_now, aI g h_t_part 6 r_2] → va_S A s.heap H locs → lv_has ls 6 [(0, .ref h_t)] → W p l e (rmv 1 22) s m args below meth c H locs 0 0 Q (F0 m 25 ls []) := by
    intro H locs ls hP hD hS hl
    refine lv_aload_n hx hb dX9_partsNow_25 rfl (lv_at hl 0 rfl) ?_
    refine w_get cx hP 0 9 0 rfl rfl (by decide) m_644 rfl rfl dX9_partsNow_26 ?_
    refine lv_iconst (v := (nI 0)) hx hb dX9_partsNow_29 (by decide) ?_
    obtain ⟨g_30, hM⟩ := gd_some hM
    refine w_iald cx hP 1 rfl g_30 dX9_partsNow_30 ?_
    refine lv_topi (fun x_31 ex_31 => ?_)
    have hM := nm_some hM x_31 ex_31
    refine lv_istore_n (lv' := [(1, .int x_31), (0, .ref h_t)]) hx hb dX9_partsNow_31 rfl hl (by decide) rfl (fun ls hl => ?_)
    refine lv_iconst (v := (nI 0)) hx hb dX9_partsNow_32 (by decide) ?_
    refine lv_istore_n (lv' := [(2, .int (nI 0)), (1, .int x_31), (0, .ref h_t)]) hx hb dX9_partsNow_33 rfl hl (by decide) rfl (fun ls hl => ?_)
    obtain ⟨r_34, hw, hM⟩ := bd_some hM
    obtain ⟨n, hn⟩ := wh_some hw
    clear hw
    have hE_34_0 : ∀ (H : Heap) (locs : List Loc) (ls : Array Slot), va_P (gD g) vwCl [ob h_t 9 [.ref h_t_now, .ref h_t_read, .ref h_t_past, .int t_saved, .ref h_t_text, .int t_letters, .int t_stage, .ref h_t_part, .int t_size, .ref h_t_matrix, .ref h_t_power, .ref h_t_product, .ref h_t_poly, .ref h_t_old, .ref h_t_step, .ref h_t_column, .ref h_t_moved, .ref h_t_traces, .ref h_t_signed, .ref h_t_plus, .ref h_t_minus, .ref h_t_walk], aI g h_t_now 29 a_t_now, aI g h_t_part 6 r_34.2] H → va_D A [ob h_t 9 [.ref h_t_now, .ref h_t_read, .ref h_t_past, .int t_saved, .ref h_t_text, .int t_letters, .int t_stage, .ref h_t_part, .int t_size, .ref h_t_matrix, .ref h_t_power, .ref h_t_product, .ref h_t_poly, .ref h_t_old, .ref h_t_step, .ref h_t_column, .ref h_t_moved, .ref h_t_traces, .ref h_t_signed, .ref h_t_plus, .ref h_t_minus, .ref h_t_walk], aI g h_t_now 29 a_t_now, aI g h_t_part 6 r_34.2] → va_S A s.heap H locs → lv_has ls 6 [(1, .int r_34.1)] → W p l e (rmv 1 22) s m args below meth c H locs 0 0 Q (F0 m 143 ls []) := by
      intro H locs ls hP hD hS hl
      refine lv_iload_n hx hb dX9_partsNow_143 rfl (lv_at hl 0 rfl) ?_
      obtain rfl := Option.some.inj hM
      exact hfin 144 _ _ _ dX9_partsNow_144 hP hD hS
    clear hM
    have hL_34 : ∀ (n : Nat) (z_34 : Int32 × Int32 × (Nat → Int32)), it (b_X9_partsNow_34 t_saved t_letters t_stage t_size a_t_now) n z_34 = some r_34 → ∀ (H : Heap) (locs : List Loc) (ls : Array Slot), va_P (gD g) vwCl [ob h_t 9 [.ref h_t_now, .ref h_t_read, .ref h_t_past, .int t_saved, .ref h_t_text, .int t_letters, .int t_stage, .ref h_t_part, .int t_size, .ref h_t_matrix, .ref h_t_power, .ref h_t_product, .ref h_t_poly, .ref h_t_old, .ref h_t_step, .ref h_t_column, .ref h_t_moved, .ref h_t_traces, .ref h_t_signed, .ref h_t_plus, .ref h_t_minus, .ref h_t_walk], aI g h_t_now 29 a_t_now, aI g h_t_part 6 z_34.2.2] H → va_D A [ob h_t 9 [.ref h_t_now, .ref h_t_read, .ref h_t_past, .int t_saved, .ref h_t_text, .int t_letters, .int t_stage, .ref h_t_part, .int t_size, .ref h_t_matrix, .ref h_t_power, .ref h_t_product, .ref h_t_poly, .ref h_t_old, .ref h_t_step, .ref h_t_column, .ref h_t_moved, .ref h_t_traces, .ref h_t_signed, .ref h_t_plus, .ref h_t_minus, .ref h_t_walk], aI g h_t_now 29 a_t_now, aI g h_t_part 6 z_34.2.2] → va_S A s.heap H locs → lv_has ls 6 [(2, .int z_34.1), (1, .int z_34.2.1), (0, .ref h_t)] → W p l e (rmv 1 22) s m args below meth c H locs 0 0 Q (F0 m 34 ls []) := by
      intro n
      induction n with
      | zero => intro z_34 hn; exact (it_zero hn).elim
      | succ n ih =>
        intro z_34 hn H locs ls hP hD hS hl
        obtain ⟨x, hM, hX⟩ := it_succ hn
        clear hn
        refine lv_iload_n hx hb dX9_partsNow_34 rfl (lv_at hl 0 rfl) ?_
        refine lv_aload_n hx hb dX9_partsNow_35 rfl (lv_at hl 2 rfl) ?_
        refine w_get cx hP 0 9 0 rfl rfl (by decide) m_644 rfl rfl dX9_partsNow_36 ?_
        refine lv_iconst (v := (nI 1)) hx hb dX9_partsNow_39 (by decide) ?_
        obtain ⟨g_40, hM⟩ := gd_some hM
        refine w_iald cx hP 1 rfl g_40 dX9_partsNow_40 ?_
        refine lv_icmp_ge (tgt := 143) hx hb dX9_partsNow_41 (by decide) (fun c_41 => ?_) (fun c_41 => ?_)
        · have hM := if_t hM c_41
          obtain rfl := Option.some.inj hM
          obtain rfl : _ = r_34 := hX
          exact hE_34_0 _ _ _ hP hD hS (lv_sub hl [1] rfl)
        · have hM := if_f hM c_41
          refine lv_aload_n hx hb dX9_partsNow_44 rfl (lv_at hl 2 rfl) ?_
          refine w_get cx hP 0 9 7 rfl rfl (by decide) m_651 rfl rfl dX9_partsNow_45 ?_
          refine lv_aload_n hx hb dX9_partsNow_48 rfl (lv_at hl 2 rfl) ?_
          refine lv_iconst (v := (nI 2)) hx hb dX9_partsNow_49 (by decide) ?_
          refine lv_iload_n hx hb dX9_partsNow_50 rfl (lv_at hl 0 rfl) ?_
          refine lv_imul hx hb dX9_partsNow_51 ?_
          refine lv_iconst (v := (nI 0)) hx hb dX9_partsNow_52 (by decide) ?_
          obtain ⟨q_53, hc_53, hM⟩ := bd_some hM
          refine w_callV cx hP hD hS hA (c_X9_endOf g l h_t h_t_now h_t_read h_t_past h_t_text h_t_part h_t_matrix h_t_power h_t_product h_t_poly h_t_old h_t_step h_t_column h_t_moved h_t_traces h_t_signed h_t_plus h_t_minus h_t_walk ((nI 2) * z_34.1) (nI 0) t_saved t_letters t_stage t_size a_t_now hc_53) [0, 1] rfl (by decide) rfl [ob h_t 9 [.ref h_t_now, .ref h_t_read, .ref h_t_past, .int t_saved, .ref h_t_text, .int t_letters, .int t_stage, .ref h_t_part, .int t_size, .ref h_t_matrix, .ref h_t_power, .ref h_t_product, .ref h_t_poly, .ref h_t_old, .ref h_t_step, .ref h_t_column, .ref h_t_moved, .ref h_t_traces, .ref h_t_signed, .ref h_t_plus, .ref h_t_minus, .ref h_t_walk], aI g h_t_now 29 a_t_now, aI g h_t_part 6 z_34.2.2] rfl 0 9 rfl rfl yq_X9_endOf rfl m_782 m_784 m_22 m_51 m_785 ⟨Nat.le_of_ble_eq_true rfl, Nat.le_of_ble_eq_true rfl⟩ rfl rfl hl.1 (Nat.le_of_ble_eq_true rfl) dX9_partsNow_53 ⟨Nat.le_refl 0, Nat.le_refl 0⟩ rfl (fun H locs hP hD hS => ?_)
          obtain ⟨g_56, hM⟩ := gd_some hM
          refine w_iald cx hP 2 rfl g_56 dX9_partsNow_56 ?_
          refine lv_topi (fun x_57 ex_57 => ?_)
          have hM := nm_some hM x_57 ex_57
          refine lv_istore_n (lv' := [(3, .int x_57), (2, .int z_34.1), (1, .int z_34.2.1), (0, .ref h_t)]) hx hb dX9_partsNow_57 rfl hl (by decide) rfl (fun ls hl => ?_)
          refine lv_aload_n hx hb dX9_partsNow_58 rfl (lv_at hl 3 rfl) ?_
          refine w_get cx hP 0 9 7 rfl rfl (by decide) m_651 rfl rfl dX9_partsNow_59 ?_
          refine lv_aload_n hx hb dX9_partsNow_62 rfl (lv_at hl 3 rfl) ?_
          refine lv_iconst (v := (nI 2)) hx hb dX9_partsNow_63 (by decide) ?_
          refine lv_iload_n hx hb dX9_partsNow_64 rfl (lv_at hl 1 rfl) ?_
          refine lv_imul hx hb dX9_partsNow_65 ?_
          refine lv_iconst (v := (nI 1)) hx hb dX9_partsNow_66 (by decide) ?_
          obtain ⟨q_67, hc_67, hM⟩ := bd_some hM
          refine w_callV cx hP hD hS hA (c_X9_endOf g l h_t h_t_now h_t_read h_t_past h_t_text h_t_part h_t_matrix h_t_power h_t_product h_t_poly h_t_old h_t_step h_t_column h_t_moved h_t_traces h_t_signed h_t_plus h_t_minus h_t_walk ((nI 2) * z_34.1) (nI 1) t_saved t_letters t_stage t_size a_t_now hc_67) [0, 1] rfl (by decide) rfl [ob h_t 9 [.ref h_t_now, .ref h_t_read, .ref h_t_past, .int t_saved, .ref h_t_text, .int t_letters, .int t_stage, .ref h_t_part, .int t_size, .ref h_t_matrix, .ref h_t_power, .ref h_t_product, .ref h_t_poly, .ref h_t_old, .ref h_t_step, .ref h_t_column, .ref h_t_moved, .ref h_t_traces, .ref h_t_signed, .ref h_t_plus, .ref h_t_minus, .ref h_t_walk], aI g h_t_now 29 a_t_now, aI g h_t_part 6 z_34.2.2] rfl 0 9 rfl rfl yq_X9_endOf rfl m_782 m_784 m_22 m_51 m_785 ⟨Nat.le_of_ble_eq_true rfl, Nat.le_of_ble_eq_true rfl⟩ rfl rfl hl.1 (Nat.le_of_ble_eq_true rfl) dX9_partsNow_67 ⟨Nat.le_refl 0, Nat.le_refl 0⟩ rfl (fun H locs hP hD hS => ?_)
          obtain ⟨g_70, hM⟩ := gd_some hM
          refine w_iald cx hP 2 rfl g_70 dX9_partsNow_70 ?_
          refine lv_topi (fun x_71 ex_71 => ?_)
          have hM := nm_some hM x_71 ex_71
          refine lv_istore (lv' := [(4, .int x_71), (3, .int x_57), (2, .int z_34.1), (1, .int z_34.2.1), (0, .ref h_t)]) hx hb dX9_partsNow_71 hl (by decide) rfl (fun ls hl => ?_)
          refine lv_iload_n hx hb dX9_partsNow_73 rfl (lv_at hl 3 rfl) ?_
          refine lv_iload_n hx hb dX9_partsNow_74 rfl (lv_at hl 1 rfl) ?_
          refine lv_iload hx hb dX9_partsNow_75 (lv_at hl 0 rfl) ?_
          obtain ⟨j_77, hB, hM⟩ := bd_some hM
          have hJ_77 : ∀ (H : Heap) (locs : List Loc) (ls : Array Slot), va_P (gD g) vwCl [ob h_t 9 [.ref h_t_now, .ref h_t_read, .ref h_t_past, .int t_saved, .ref h_t_text, .int t_letters, .int t_stage, .ref h_t_part, .int t_size, .ref h_t_matrix, .ref h_t_power, .ref h_t_product, .ref h_t_poly, .ref h_t_old, .ref h_t_step, .ref h_t_column, .ref h_t_moved, .ref h_t_traces, .ref h_t_signed, .ref h_t_plus, .ref h_t_minus, .ref h_t_walk], aI g h_t_now 29 a_t_now, aI g h_t_part 6 z_34.2.2] H → va_D A [ob h_t 9 [.ref h_t_now, .ref h_t_read, .ref h_t_past, .int t_saved, .ref h_t_text, .int t_letters, .int t_stage, .ref h_t_part, .int t_size, .ref h_t_matrix, .ref h_t_power, .ref h_t_product, .ref h_t_poly, .ref h_t_old, .ref h_t_step, .ref h_t_column, .ref h_t_moved, .ref h_t_traces, .ref h_t_signed, .ref h_t_plus, .ref h_t_minus, .ref h_t_walk], aI g h_t_now 29 a_t_now, aI g h_t_part 6 z_34.2.2] → va_S A s.heap H locs → lv_has ls 6 [(4, .int x_71), (3, .int x_57), (2, .int z_34.1), (0, .ref h_t)] → W p l e (rmv 1 22) s m args below meth c H locs 0 0 Q (F0 m 85 ls [.int j_77, .int z_34.2.1]) := by
            intro H locs ls hP hD hS hl
            refine lv_isub hx hb dX9_partsNow_85 ?_
            refine lv_topi (fun x_86 ex_86 => ?_)
            have hM := nm_some hM x_86 ex_86
            refine lv_istore_n (lv' := [(1, .int x_86), (4, .int x_71), (3, .int x_57), (2, .int z_34.1), (0, .ref h_t)]) hx hb dX9_partsNow_86 rfl hl (by decide) rfl (fun ls hl => ?_)
            refine lv_iconst (v := (nI 0)) hx hb dX9_partsNow_87 (by decide) ?_
            refine lv_istore (lv' := [(5, .int (nI 0)), (1, .int x_86), (4, .int x_71), (3, .int x_57), (2, .int z_34.1), (0, .ref h_t)]) hx hb dX9_partsNow_88 hl (by decide) rfl (fun ls hl => ?_)
            obtain ⟨r_90, hw, hM⟩ := bd_some hM
            obtain ⟨n, hn⟩ := wh_some hw
            clear hw
            have hE_90_0 : ∀ (H : Heap) (locs : List Loc) (ls : Array Slot), va_P (gD g) vwCl [ob h_t 9 [.ref h_t_now, .ref h_t_read, .ref h_t_past, .int t_saved, .ref h_t_text, .int t_letters, .int t_stage, .ref h_t_part, .int t_size, .ref h_t_matrix, .ref h_t_power, .ref h_t_product, .ref h_t_poly, .ref h_t_old, .ref h_t_step, .ref h_t_column, .ref h_t_moved, .ref h_t_traces, .ref h_t_signed, .ref h_t_plus, .ref h_t_minus, .ref h_t_walk], aI g h_t_now 29 a_t_now, aI g h_t_part 6 r_90] H → va_D A [ob h_t 9 [.ref h_t_now, .ref h_t_read, .ref h_t_past, .int t_saved, .ref h_t_text, .int t_letters, .int t_stage, .ref h_t_part, .int t_size, .ref h_t_matrix, .ref h_t_power, .ref h_t_product, .ref h_t_poly, .ref h_t_old, .ref h_t_step, .ref h_t_column, .ref h_t_moved, .ref h_t_traces, .ref h_t_signed, .ref h_t_plus, .ref h_t_minus, .ref h_t_walk], aI g h_t_now 29 a_t_now, aI g h_t_part 6 r_90] → va_S A s.heap H locs → lv_has ls 6 [(1, .int x_86), (2, .int z_34.1), (0, .ref h_t)] → W p l e (rmv 1 22) s m args below meth c H locs 0 0 Q (F0 m 137 ls []) := by
              intro H locs ls hP hD hS hl
              refine lv_iinc (v := z_34.1 + (nI 1)) (lv' := [(2, .int (z_34.1 + (nI 1))), (1, .int x_86), (0, .ref h_t)]) hx hb dX9_partsNow_137 hl (k := 1) rfl (congrArg (fun q => z_34.1 + q) (show Int32.ofInt (1) = (nI 1) by decide)) (by decide) rfl (fun ls hl => ?_)
              refine lv_goto (tgt := 34) hx hb dX9_partsNow_140 (by decide) ?_
              obtain rfl := Option.some.inj hM
              exact ih _ hX _ _ _ hP hD hS (lv_sub hl [0, 1, 2] rfl)
            clear hM
            have hL_90 : ∀ (n : Nat) (z_90 : Int32 × (Nat → Int32)), it (b_X9_partsNow_90 a_t_now x_57 x_71) n z_90 = some r_90 → ∀ (H : Heap) (locs : List Loc) (ls : Array Slot), va_P (gD g) vwCl [ob h_t 9 [.ref h_t_now, .ref h_t_read, .ref h_t_past, .int t_saved, .ref h_t_text, .int t_letters, .int t_stage, .ref h_t_part, .int t_size, .ref h_t_matrix, .ref h_t_power, .ref h_t_product, .ref h_t_poly, .ref h_t_old, .ref h_t_step, .ref h_t_column, .ref h_t_moved, .ref h_t_traces, .ref h_t_signed, .ref h_t_plus, .ref h_t_minus, .ref h_t_walk], aI g h_t_now 29 a_t_now, aI g h_t_part 6 z_90.2] H → va_D A [ob h_t 9 [.ref h_t_now, .ref h_t_read, .ref h_t_past, .int t_saved, .ref h_t_text, .int t_letters, .int t_stage, .ref h_t_part, .int t_size, .ref h_t_matrix, .ref h_t_power, .ref h_t_product, .ref h_t_poly, .ref h_t_old, .ref h_t_step, .ref h_t_column, .ref h_t_moved, .ref h_t_traces, .ref h_t_signed, .ref h_t_plus, .ref h_t_minus, .ref h_t_walk], aI g h_t_now 29 a_t_now, aI g h_t_part 6 z_90.2] → va_S A s.heap H locs → lv_has ls 6 [(5, .int z_90.1), (1, .int x_86), (4, .int x_71), (3, .int x_57), (2, .int z_34.1), (0, .ref h_t)] → W p l e (rmv 1 22) s m args below meth c H locs 0 0 Q (F0 m 90 ls []) := by
              intro n
              induction n with
              | zero => intro z_90 hn; exact (it_zero hn).elim
              | succ n ih =>
                intro z_90 hn H locs ls hP hD hS hl
                obtain ⟨x, hM, hX⟩ := it_succ hn
                clear hn
                refine lv_iload hx hb dX9_partsNow_90 (lv_at hl 0 rfl) ?_
                refine lv_aload_n hx hb dX9_partsNow_92 rfl (lv_at hl 5 rfl) ?_
                refine w_get cx hP 0 9 0 rfl rfl (by decide) m_644 rfl rfl dX9_partsNow_93 ?_
                refine lv_iconst (v := (nI 0)) hx hb dX9_partsNow_96 (by decide) ?_
                obtain ⟨g_97, hM⟩ := gd_some hM
                refine w_iald cx hP 1 rfl g_97 dX9_partsNow_97 ?_
                refine lv_icmp_ge (tgt := 137) hx hb dX9_partsNow_98 (by decide) (fun c_98 => ?_) (fun c_98 => ?_)
                · have hM := if_t hM c_98
                  obtain rfl := Option.some.inj hM
                  obtain rfl : _ = r_90 := hX
                  exact hE_90_0 _ _ _ hP hD hS (lv_sub hl [1, 4, 5] rfl)
                · have hM := if_f hM c_98
                  refine lv_aload_n hx hb dX9_partsNow_101 rfl (lv_at hl 5 rfl) ?_
                  refine w_get cx hP 0 9 7 rfl rfl (by decide) m_651 rfl rfl dX9_partsNow_102 ?_
                  refine lv_iload hx hb dX9_partsNow_105 (lv_at hl 0 rfl) ?_
                  refine lv_aload_n hx hb dX9_partsNow_107 rfl (lv_at hl 5 rfl) ?_
                  refine w_get cx hP 0 9 7 rfl rfl (by decide) m_651 rfl rfl dX9_partsNow_108 ?_
                  refine lv_iload hx hb dX9_partsNow_111 (lv_at hl 0 rfl) ?_
                  obtain ⟨g_113, hM⟩ := gd_some hM
                  refine w_iald cx hP 2 rfl g_113 dX9_partsNow_113 ?_
                  refine lv_iload_n hx hb dX9_partsNow_114 rfl (lv_at hl 3 rfl) ?_
                  obtain ⟨j_115, hB, hM⟩ := bd_some hM
                  have hJ_115 : ∀ (H : Heap) (locs : List Loc) (ls : Array Slot), va_P (gD g) vwCl [ob h_t 9 [.ref h_t_now, .ref h_t_read, .ref h_t_past, .int t_saved, .ref h_t_text, .int t_letters, .int t_stage, .ref h_t_part, .int t_size, .ref h_t_matrix, .ref h_t_power, .ref h_t_product, .ref h_t_poly, .ref h_t_old, .ref h_t_step, .ref h_t_column, .ref h_t_moved, .ref h_t_traces, .ref h_t_signed, .ref h_t_plus, .ref h_t_minus, .ref h_t_walk], aI g h_t_now 29 a_t_now, aI g h_t_part 6 z_90.2] H → va_D A [ob h_t 9 [.ref h_t_now, .ref h_t_read, .ref h_t_past, .int t_saved, .ref h_t_text, .int t_letters, .int t_stage, .ref h_t_part, .int t_size, .ref h_t_matrix, .ref h_t_power, .ref h_t_product, .ref h_t_poly, .ref h_t_old, .ref h_t_step, .ref h_t_column, .ref h_t_moved, .ref h_t_traces, .ref h_t_signed, .ref h_t_plus, .ref h_t_minus, .ref h_t_walk], aI g h_t_now 29 a_t_now, aI g h_t_part 6 z_90.2] → va_S A s.heap H locs → lv_has ls 6 [(5, .int z_90.1), (1, .int x_86), (4, .int x_71), (3, .int x_57), (2, .int z_34.1), (0, .ref h_t)] → W p l e (rmv 1 22) s m args below meth c H locs 0 0 Q (F0 m 130 ls [.int j_115, .int z_90.1, .ref h_t_part]) := by
                    intro H locs ls hP hD hS hl
                    obtain ⟨g_130, hM⟩ := gd_some hM
                    refine w_iast cx hP hD hS 2 rfl g_130 dX9_partsNow_130 [ob h_t 9 [.ref h_t_now, .ref h_t_read, .ref h_t_past, .int t_saved, .ref h_t_text, .int t_letters, .int t_stage, .ref h_t_part, .int t_size, .ref h_t_matrix, .ref h_t_power, .ref h_t_product, .ref h_t_poly, .ref h_t_old, .ref h_t_step, .ref h_t_column, .ref h_t_moved, .ref h_t_traces, .ref h_t_signed, .ref h_t_plus, .ref h_t_minus, .ref h_t_walk], aI g h_t_now 29 a_t_now, aI g h_t_part 6 (upd z_90.2 z_90.1.toNatClampNeg j_115)] rfl (fun H locs hP hD hS => ?_)
                    refine lv_iinc (v := z_90.1 + (nI 1)) (lv' := [(5, .int (z_90.1 + (nI 1))), (1, .int x_86), (4, .int x_71), (3, .int x_57), (2, .int z_34.1), (0, .ref h_t)]) hx hb dX9_partsNow_131 hl (k := 0) rfl (congrArg (fun q => z_90.1 + q) (show Int32.ofInt (1) = (nI 1) by decide)) (by decide) rfl (fun ls hl => ?_)
                    refine lv_goto (tgt := 90) hx hb dX9_partsNow_134 (by decide) ?_
                    obtain rfl := Option.some.inj hM
                    exact ih _ hX _ _ _ hP hD hS (lv_sub hl [0, 1, 2, 3, 4, 5] rfl)
                  clear hM
                  have hM := hB
                  clear hB
                  refine lv_icmp_ne (tgt := 123) hx hb dX9_partsNow_115 (by decide) (fun c_115 => ?_) (fun c_115 => ?_)
                  · have hM := if_f hM c_115
                    refine lv_aload_n hx hb dX9_partsNow_123 rfl (lv_at hl 5 rfl) ?_
                    refine w_get cx hP 0 9 7 rfl rfl (by decide) m_651 rfl rfl dX9_partsNow_124 ?_
                    refine lv_iload hx hb dX9_partsNow_127 (lv_at hl 0 rfl) ?_
                    obtain ⟨g_129, hM⟩ := gd_some hM
                    refine w_iald cx hP 2 rfl g_129 dX9_partsNow_129 ?_
                    obtain rfl := Option.some.inj hM
                    exact hJ_115 _ _ _ hP hD hS (lv_sub hl [0, 1, 2, 3, 4, 5] rfl)
                  · have hM := if_t hM c_115
                    refine lv_iload hx hb dX9_partsNow_118 (lv_at hl 2 rfl) ?_
                    refine lv_goto (tgt := 130) hx hb dX9_partsNow_120 (by decide) ?_
                    obtain rfl := Option.some.inj hM
                    exact hJ_115 _ _ _ hP hD hS (lv_sub hl [0, 1, 2, 3, 4, 5] rfl)
            exact hL_90 n _ hn _ _ _ hP hD hS (lv_sub hl [0, 1, 2, 3, 4, 5] rfl)
          clear hM
          have hM := hB
          clear hB
          refine lv_icmp_ne (tgt := 84) hx hb dX9_partsNow_77 (by decide) (fun c_77 => ?_) (fun c_77 => ?_)
          · have hM := if_f hM c_77
            refine lv_iconst (v := (nI 1)) hx hb dX9_partsNow_84 (by decide) ?_
            obtain rfl := Option.some.inj hM
            exact hJ_77 _ _ _ hP hD hS (lv_sub hl [0, 1, 2, 4] rfl)
          · have hM := if_t hM c_77
            refine lv_iconst (v := (nI 0)) hx hb dX9_partsNow_80 (by decide) ?_
            refine lv_goto (tgt := 85) hx hb dX9_partsNow_81 (by decide) ?_
            obtain rfl := Option.some.inj hM
            exact hJ_77 _ _ _ hP hD hS (lv_sub hl [0, 1, 2, 4] rfl)
    exact hL_34 n _ hn _ _ _ hP hD hS (lv_sub hl [0, 1, 2] rfl)
  clear hM
  have hL_2 : ∀ (n : Nat) (z_2 : Int32 × (Nat → Int32)), it (b_X9_partsNow_2 a_t_now) n z_2 = some r_2 → ∀ (H : Heap) (locs : List Loc) (ls : Array Slot), va_P (gD g) vwCl [ob h_t 9 [.ref h_t_now, .ref h_t_read, .ref h_t_past, .int t_saved, .ref h_t_text, .int t_letters, .int t_stage, .ref h_t_part, .int t_size, .ref h_t_matrix, .ref h_t_power, .ref h_t_product, .ref h_t_poly, .ref h_t_old, .ref h_t_step, .ref h_t_column, .ref h_t_moved, .ref h_t_traces, .ref h_t_signed, .ref h_t_plus, .ref h_t_minus, .ref h_t_walk], aI g h_t_now 29 a_t_now, aI g h_t_part 6 z_2.2] H → va_D A [ob h_t 9 [.ref h_t_now, .ref h_t_read, .ref h_t_past, .int t_saved, .ref h_t_text, .int t_letters, .int t_stage, .ref h_t_part, .int t_size, .ref h_t_matrix, .ref h_t_power, .ref h_t_product, .ref h_t_poly, .ref h_t_old, .ref h_t_step, .ref h_t_column, .ref h_t_moved, .ref h_t_traces, .ref h_t_signed, .ref h_t_plus, .ref h_t_minus, .ref h_t_walk], aI g h_t_now 29 a_t_now, aI g h_t_part 6 z_2.2] → va_S A s.heap H locs → lv_has ls 6 [(1, .int z_2.1), (0, .ref h_t)] → W p l e (rmv 1 22) s m args below meth c H locs 0 0 Q (F0 m 2 ls []) := by
    intro n
    induction n with
    | zero => intro z_2 hn; exact (it_zero hn).elim
    | succ n ih =>
      intro z_2 hn H locs ls hP hD hS hl
      obtain ⟨x, hM, hX⟩ := it_succ hn
      clear hn
      refine lv_iload_n hx hb dX9_partsNow_2 rfl (lv_at hl 0 rfl) ?_
      refine lv_aload_n hx hb dX9_partsNow_3 rfl (lv_at hl 1 rfl) ?_
      refine w_get cx hP 0 9 0 rfl rfl (by decide) m_644 rfl rfl dX9_partsNow_4 ?_
      refine lv_iconst (v := (nI 0)) hx hb dX9_partsNow_7 (by decide) ?_
      obtain ⟨g_8, hM⟩ := gd_some hM
      refine w_iald cx hP 1 rfl g_8 dX9_partsNow_8 ?_
      refine lv_icmp_ge (tgt := 25) hx hb dX9_partsNow_9 (by decide) (fun c_9 => ?_) (fun c_9 => ?_)
      · have hM := if_t hM c_9
        obtain rfl := Option.some.inj hM
        obtain rfl : _ = r_2 := hX
        exact hE_2_0 _ _ _ hP hD hS (lv_sub hl [1] rfl)
      · have hM := if_f hM c_9
        refine lv_aload_n hx hb dX9_partsNow_12 rfl (lv_at hl 1 rfl) ?_
        refine w_get cx hP 0 9 7 rfl rfl (by decide) m_651 rfl rfl dX9_partsNow_13 ?_
        refine lv_iload_n hx hb dX9_partsNow_16 rfl (lv_at hl 0 rfl) ?_
        refine lv_iload_n hx hb dX9_partsNow_17 rfl (lv_at hl 0 rfl) ?_
        obtain ⟨g_18, hM⟩ := gd_some hM
        refine w_iast cx hP hD hS 2 rfl g_18 dX9_partsNow_18 [ob h_t 9 [.ref h_t_now, .ref h_t_read, .ref h_t_past, .int t_saved, .ref h_t_text, .int t_letters, .int t_stage, .ref h_t_part, .int t_size, .ref h_t_matrix, .ref h_t_power, .ref h_t_product, .ref h_t_poly, .ref h_t_old, .ref h_t_step, .ref h_t_column, .ref h_t_moved, .ref h_t_traces, .ref h_t_signed, .ref h_t_plus, .ref h_t_minus, .ref h_t_walk], aI g h_t_now 29 a_t_now, aI g h_t_part 6 (upd z_2.2 z_2.1.toNatClampNeg z_2.1)] rfl (fun H locs hP hD hS => ?_)
        refine lv_iinc (v := z_2.1 + (nI 1)) (lv' := [(1, .int (z_2.1 + (nI 1))), (0, .ref h_t)]) hx hb dX9_partsNow_19 hl (k := 0) rfl (congrArg (fun q => z_2.1 + q) (show Int32.ofInt (1) = (nI 1) by decide)) (by decide) rfl (fun ls hl => ?_)
        refine lv_goto (tgt := 2) hx hb dX9_partsNow_22 (by decide) ?_
        obtain rfl := Option.some.inj hM
        exact ih _ hX _ _ _ hP hD hS (lv_sub hl [0, 1] rfl)
  exact hL_2 n _ hn _ _ _ hP hD hS (lv_sub hl [0, 1] rfl)
noncomputable def f_X9_components (t_saved : Int32) (t_letters : Int32) (t_stage : Int32) (t_size : Int32) (a_t_now : Nat → Int32) (a_t_part : Nat → Int32) : Option (Int32 × (Nat → Int32)) :=
  bd (f_X9_partsNow t_saved t_letters t_stage t_size a_t_now a_t_part) (fun (q_1 : Int32 × (Nat → Int32)) => some (q_1.1, q_1.2))
theorem yq_X9_components : yq yX9_components 0 := by unfold yq; decide +kernel
set_option maxHeartbeats 4000000 in
set_option maxRecDepth 100000 in
theorem c_X9_components (g : GG) (l : Launch) (h_t : Nat) (h_t_now : Nat) (h_t_read : Nat) (h_t_past : Nat) (h_t_text : Nat) (h_t_part : Nat) (h_t_matrix : Nat) (h_t_power : Nat) (h_t_product : Nat) (h_t_poly : Nat) (h_t_old : Nat) (h_t_step : Nat) (h_t_column : Nat) (h_t_moved : Nat) (h_t_traces : Nat) (h_t_signed : Nat) (h_t_plus : Nat) (h_t_minus : Nat) (h_t_walk : Nat) (t_saved : Int32) (t_letters : Int32) (t_stage : Int32) (t_size : Int32) (a_t_now : Nat → Int32) (a_t_part : Nat → Int32) {R : Int32 × (Nat → Int32)} (hM : f_X9_components t_saved t_letters t_stage t_size a_t_now a_t_part = some R) : CT g l yX9_components cX9_components 1 (some .int) 2 47 [.ref h_t] [ob h_t 9 [.ref h_t_now, .ref h_t_read, .ref h_t_past, .int t_saved, .ref h_t_text, .int t_letters, .int t_stage, .ref h_t_part, .int t_size, .ref h_t_matrix, .ref h_t_power, .ref h_t_product, .ref h_t_poly, .ref h_t_old, .ref h_t_step, .ref h_t_column, .ref h_t_moved, .ref h_t_traces, .ref h_t_signed, .ref h_t_plus, .ref h_t_minus, .ref h_t_walk], aI g h_t_now 29 a_t_now, aI g h_t_part 6 a_t_part] [ob h_t 9 [.ref h_t_now, .ref h_t_read, .ref h_t_past, .int t_saved, .ref h_t_text, .int t_letters, .int t_stage, .ref h_t_part, .int t_size, .ref h_t_matrix, .ref h_t_power, .ref h_t_product, .ref h_t_poly, .ref h_t_old, .ref h_t_step, .ref h_t_column, .ref h_t_moved, .ref h_t_traces, .ref h_t_signed, .ref h_t_plus, .ref h_t_minus, .ref h_t_walk], aI g h_t_now 29 a_t_now, aI g h_t_part 6 R.2] (some (.int R.1)) := by
  refine ct_i (by decide +kernel) (Nat.le_of_ble_eq_true rfl) ?_
  intro p e s m args below meth c Q A ls cx hP hD hA hl hfin
  obtain ⟨hx, hb, hml, hown, hts, hK⟩ := id cx
  have hl : lv_has ls 1 [(0, .ref h_t)] := hl
  have hS : va_S A s.heap s.heap [] := va_S.rf
  refine lv_aload_n hx hb dX9_components_0 rfl (lv_at hl 0 rfl) ?_
  obtain ⟨q_1, hc_1, hM⟩ := bd_some hM
  refine w_callV cx hP hD hS hA (c_X9_partsNow g l h_t h_t_now h_t_read h_t_past h_t_text h_t_part h_t_matrix h_t_power h_t_product h_t_poly h_t_old h_t_step h_t_column h_t_moved h_t_traces h_t_signed h_t_plus h_t_minus h_t_walk t_saved t_letters t_stage t_size a_t_now a_t_part hc_1) [0, 1, 2] rfl (by decide) rfl [ob h_t 9 [.ref h_t_now, .ref h_t_read, .ref h_t_past, .int t_saved, .ref h_t_text, .int t_letters, .int t_stage, .ref h_t_part, .int t_size, .ref h_t_matrix, .ref h_t_power, .ref h_t_product, .ref h_t_poly, .ref h_t_old, .ref h_t_step, .ref h_t_column, .ref h_t_moved, .ref h_t_traces, .ref h_t_signed, .ref h_t_plus, .ref h_t_minus, .ref h_t_walk], aI g h_t_now 29 a_t_now, aI g h_t_part 6 q_1.2] rfl 0 9 rfl rfl yq_X9_partsNow rfl m_806 m_808 m_25 m_51 m_809 ⟨Nat.le_of_ble_eq_true rfl, Nat.le_of_ble_eq_true rfl⟩ rfl rfl hl.1 (Nat.le_of_ble_eq_true rfl) dX9_components_1 ⟨Nat.le_refl 0, Nat.le_refl 0⟩ rfl (fun H locs hP hD hS => ?_)
  obtain rfl := Option.some.inj hM
  exact hfin 4 _ _ _ dX9_components_4 hP hD hS
noncomputable def f_X9_rank (t_saved : Int32) (t_letters : Int32) (t_stage : Int32) (t_size : Int32) (a_t_now : Nat → Int32) (a_t_part : Nat → Int32) : Option (Int32 × (Nat → Int32)) :=
  gd (inb (nI 1) 29) (gd (inb (nI 0) 29) (bd (f_X9_partsNow t_saved t_letters t_stage t_size a_t_now a_t_part) (fun (q_14 : Int32 × (Nat → Int32)) => some (((a_t_now (nI 1).toNatClampNeg) - (a_t_now (nI 0).toNatClampNeg)) + q_14.1, q_14.2))))
theorem yq_X9_rank : yq yX9_rank 0 := by unfold yq; decide +kernel
set_option maxHeartbeats 4000000 in
set_option maxRecDepth 100000 in
theorem c_X9_rank (g : GG) (l : Launch) (h_t : Nat) (h_t_now : Nat) (h_t_read : Nat) (h_t_past : Nat) (h_t_text : Nat) (h_t_part : Nat) (h_t_matrix : Nat) (h_t_power : Nat) (h_t_product : Nat) (h_t_poly : Nat) (h_t_old : Nat) (h_t_step : Nat) (h_t_column : Nat) (h_t_moved : Nat) (h_t_traces : Nat) (h_t_signed : Nat) (h_t_plus : Nat) (h_t_minus : Nat) (h_t_walk : Nat) (t_saved : Int32) (t_letters : Int32) (t_stage : Int32) (t_size : Int32) (a_t_now : Nat → Int32) (a_t_part : Nat → Int32) {R : Int32 × (Nat → Int32)} (hM : f_X9_rank t_saved t_letters t_stage t_size a_t_now a_t_part = some R) : CT g l yX9_rank cX9_rank 1 (some .int) 2 47 [.ref h_t] [ob h_t 9 [.ref h_t_now, .ref h_t_read, .ref h_t_past, .int t_saved, .ref h_t_text, .int t_letters, .int t_stage, .ref h_t_part, .int t_size, .ref h_t_matrix, .ref h_t_power, .ref h_t_product, .ref h_t_poly, .ref h_t_old, .ref h_t_step, .ref h_t_column, .ref h_t_moved, .ref h_t_traces, .ref h_t_signed, .ref h_t_plus, .ref h_t_minus, .ref h_t_walk], aI g h_t_now 29 a_t_now, aI g h_t_part 6 a_t_part] [ob h_t 9 [.ref h_t_now, .ref h_t_read, .ref h_t_past, .int t_saved, .ref h_t_text, .int t_letters, .int t_stage, .ref h_t_part, .int t_size, .ref h_t_matrix, .ref h_t_power, .ref h_t_product, .ref h_t_poly, .ref h_t_old, .ref h_t_step, .ref h_t_column, .ref h_t_moved, .ref h_t_traces, .ref h_t_signed, .ref h_t_plus, .ref h_t_minus, .ref h_t_walk], aI g h_t_now 29 a_t_now, aI g h_t_part 6 R.2] (some (.int R.1)) := by
  refine ct_i (by decide +kernel) (Nat.le_of_ble_eq_true rfl) ?_
  intro p e s m args below meth c Q A ls cx hP hD hA hl hfin
  obtain ⟨hx, hb, hml, hown, hts, hK⟩ := id cx
  have hl : lv_has ls 1 [(0, .ref h_t)] := hl
  have hS : va_S A s.heap s.heap [] := va_S.rf
  refine lv_aload_n hx hb dX9_rank_0 rfl (lv_at hl 0 rfl) ?_
  refine w_get cx hP 0 9 0 rfl rfl (by decide) m_644 rfl rfl dX9_rank_1 ?_
  refine lv_iconst (v := (nI 1)) hx hb dX9_rank_4 (by decide) ?_
  obtain ⟨g_5, hM⟩ := gd_some hM
  refine w_iald cx hP 1 rfl g_5 dX9_rank_5 ?_
  refine lv_aload_n hx hb dX9_rank_6 rfl (lv_at hl 0 rfl) ?_
  refine w_get cx hP 0 9 0 rfl rfl (by decide) m_644 rfl rfl dX9_rank_7 ?_
  refine lv_iconst (v := (nI 0)) hx hb dX9_rank_10 (by decide) ?_
  obtain ⟨g_11, hM⟩ := gd_some hM
  refine w_iald cx hP 1 rfl g_11 dX9_rank_11 ?_
  refine lv_isub hx hb dX9_rank_12 ?_
  refine lv_aload_n hx hb dX9_rank_13 rfl (lv_at hl 0 rfl) ?_
  obtain ⟨q_14, hc_14, hM⟩ := bd_some hM
  refine w_callV cx hP hD hS hA (c_X9_partsNow g l h_t h_t_now h_t_read h_t_past h_t_text h_t_part h_t_matrix h_t_power h_t_product h_t_poly h_t_old h_t_step h_t_column h_t_moved h_t_traces h_t_signed h_t_plus h_t_minus h_t_walk t_saved t_letters t_stage t_size a_t_now a_t_part hc_14) [0, 1, 2] rfl (by decide) rfl [ob h_t 9 [.ref h_t_now, .ref h_t_read, .ref h_t_past, .int t_saved, .ref h_t_text, .int t_letters, .int t_stage, .ref h_t_part, .int t_size, .ref h_t_matrix, .ref h_t_power, .ref h_t_product, .ref h_t_poly, .ref h_t_old, .ref h_t_step, .ref h_t_column, .ref h_t_moved, .ref h_t_traces, .ref h_t_signed, .ref h_t_plus, .ref h_t_minus, .ref h_t_walk], aI g h_t_now 29 a_t_now, aI g h_t_part 6 q_14.2] rfl 0 9 rfl rfl yq_X9_partsNow rfl m_806 m_808 m_25 m_51 m_809 ⟨Nat.le_of_ble_eq_true rfl, Nat.le_of_ble_eq_true rfl⟩ rfl rfl hl.1 (Nat.le_of_ble_eq_true rfl) dX9_rank_14 ⟨Nat.le_refl 0, Nat.le_refl 0⟩ rfl (fun H locs hP hD hS => ?_)
  refine lv_iadd hx hb dX9_rank_17 ?_
  obtain rfl := Option.some.inj hM
  exact hfin 18 _ _ _ dX9_rank_18 hP hD hS
noncomputable def b_X9_isBalanced_18 (t_saved : Int32) (t_letters : Int32) (t_stage : Int32) (t_size : Int32) (a_t_now : Nat → Int32) (z_2 : Int32) : Int32 × Int32 → Option ((Int32 × Int32) ⊕ ((Int32))) := fun z_18 =>
  gd (inb (nI 1) 29) (if (a_t_now (nI 1).toNatClampNeg) ≤ z_18.1 then some (.inr z_18.2) else bd (f_X9_endOf ((nI 2) * z_18.1) (nI 0) t_saved t_letters t_stage t_size a_t_now) (fun (q_34 : Int32) => bd (f_X9_endOf ((nI 2) * z_18.1) (nI 1) t_saved t_letters t_stage t_size a_t_now) (fun (q_46 : Int32) => bd (if ((z_2 >>> (q_34 &&& 31)) &&& (nI 1)) = ((z_2 >>> (q_46 &&& 31)) &&& (nI 1)) then some (nI 0) else some (nI 1)) (fun (j_52 : Int32) => bd (if z_18.2 = 0 then some (nI 0) else bd (f_X9_signOf ((nI 2) * z_18.1) t_saved t_letters t_stage t_size a_t_now) (fun (q_72 : Int32) => bd (if q_72 = (nI 4294967295) then some (nI 1) else some (nI 0)) (fun (j_76 : Int32) => if j_52 = j_76 then some (nI 1) else some (nI 0)))) (fun (j_63 : Int32) => some (.inl (z_18.1 + (nI 1), j_63)))))))
noncomputable def b_X9_isBalanced_2 (t_saved : Int32) (t_letters : Int32) (t_stage : Int32) (t_size : Int32) (a_t_now : Nat → Int32) : Int32 → Option ((Int32) ⊕ ((Unit) ⊕ (Unit))) := fun z_2 =>
  gd (inb (nI 0) 29) (if ((nI 1) <<< ((a_t_now (nI 0).toNatClampNeg) &&& 31)) ≤ z_2 then some (.inr (.inr ())) else bd (wh (b_X9_isBalanced_18 t_saved t_letters t_stage t_size a_t_now z_2) ((nI 0), (nI 1))) (fun (r_18 : Int32) => if r_18 = 0 then some (.inl (z_2 + (nI 1))) else some (.inr (.inl ()))))
noncomputable def f_X9_isBalanced (t_saved : Int32) (t_letters : Int32) (t_stage : Int32) (t_size : Int32) (a_t_now : Nat → Int32) : Option (Int32) :=
  bd (wh (b_X9_isBalanced_2 t_saved t_letters t_stage t_size a_t_now) (nI 0)) (fun (r_2 : (Unit) ⊕ (Unit)) => ex2 r_2 (fun (r_2_0 : Unit) => some (nI 1)) (fun (r_2_1 : Unit) => some (nI 0)))
theorem yq_X9_isBalanced : yq yX9_isBalanced 0 := by unfold yq; decide +kernel
set_option maxHeartbeats 4000000 in
set_option maxRecDepth 100000 in
theorem c_X9_isBalanced (g : GG) (l : Launch) (h_t : Nat) (h_t_now : Nat) (h_t_read : Nat) (h_t_past : Nat) (h_t_text : Nat) (h_t_part : Nat) (h_t_matrix : Nat) (h_t_power : Nat) (h_t_product : Nat) (h_t_poly : Nat) (h_t_old : Nat) (h_t_step : Nat) (h_t_column : Nat) (h_t_moved : Nat) (h_t_traces : Nat) (h_t_signed : Nat) (h_t_plus : Nat) (h_t_minus : Nat) (h_t_walk : Nat) (t_saved : Int32) (t_letters : Int32) (t_stage : Int32) (t_size : Int32) (a_t_now : Nat → Int32) {R : Int32} (hM : f_X9_isBalanced t_saved t_letters t_stage t_size a_t_now = some R) : CT g l yX9_isBalanced cX9_isBalanced 5 (some .int) 1 22 [.ref h_t] [ob h_t 9 [.ref h_t_now, .ref h_t_read, .ref h_t_past, .int t_saved, .ref h_t_text, .int t_letters, .int t_stage, .ref h_t_part, .int t_size, .ref h_t_matrix, .ref h_t_power, .ref h_t_product, .ref h_t_poly, .ref h_t_old, .ref h_t_step, .ref h_t_column, .ref h_t_moved, .ref h_t_traces, .ref h_t_signed, .ref h_t_plus, .ref h_t_minus, .ref h_t_walk], aI g h_t_now 29 a_t_now] [ob h_t 9 [.ref h_t_now, .ref h_t_read, .ref h_t_past, .int t_saved, .ref h_t_text, .int t_letters, .int t_stage, .ref h_t_part, .int t_size, .ref h_t_matrix, .ref h_t_power, .ref h_t_product, .ref h_t_poly, .ref h_t_old, .ref h_t_step, .ref h_t_column, .ref h_t_moved, .ref h_t_traces, .ref h_t_signed, .ref h_t_plus, .ref h_t_minus, .ref h_t_walk], aI g h_t_now 29 a_t_now] (some (.int R)) := by
  refine ct_i (by decide +kernel) (Nat.le_of_ble_eq_true rfl) ?_
  intro p e s m args below meth c Q A ls cx hP hD hA hl hfin
  obtain ⟨hx, hb, hml, hown, hts, hK⟩ := id cx
  have hl : lv_has ls 5 [(0, .ref h_t)] := hl
  have hS : va_S A s.heap s.heap [] := va_S.rf
  refine lv_iconst (v := (nI 0)) hx hb dX9_isBalanced_0 (by decide) ?_
  refine lv_istore_n (lv' := [(1, .int (nI 0)), (0, .ref h_t)]) hx hb dX9_isBalanced_1 rfl hl (by decide) rfl (fun ls hl => ?_)
  obtain ⟨r_2, hw, hM⟩ := bd_some hM
  obtain ⟨n, hn⟩ := wh_some hw
  clear hw
  have hE_2_0 : ∀ (r_2_0 : Unit), r_2 = .inl r_2_0 → ∀ (H : Heap) (locs : List Loc) (ls : Array Slot), va_P (gD g) vwCl [ob h_t 9 [.ref h_t_now, .ref h_t_read, .ref h_t_past, .int t_saved, .ref h_t_text, .int t_letters, .int t_stage, .ref h_t_part, .int t_size, .ref h_t_matrix, .ref h_t_power, .ref h_t_product, .ref h_t_poly, .ref h_t_old, .ref h_t_step, .ref h_t_column, .ref h_t_moved, .ref h_t_traces, .ref h_t_signed, .ref h_t_plus, .ref h_t_minus, .ref h_t_walk], aI g h_t_now 29 a_t_now] H → va_D A [ob h_t 9 [.ref h_t_now, .ref h_t_read, .ref h_t_past, .int t_saved, .ref h_t_text, .int t_letters, .int t_stage, .ref h_t_part, .int t_size, .ref h_t_matrix, .ref h_t_power, .ref h_t_product, .ref h_t_poly, .ref h_t_old, .ref h_t_step, .ref h_t_column, .ref h_t_moved, .ref h_t_traces, .ref h_t_signed, .ref h_t_plus, .ref h_t_minus, .ref h_t_walk], aI g h_t_now 29 a_t_now] → va_S A s.heap H locs → lv_has ls 5 [] → W p l e (rmv 1 22) s m args below meth c H locs 0 0 Q (F0 m 103 ls []) := by
    intro r_2_0 hr H locs ls hP hD hS hl
    have hM := ex2_0 hM hr
    refine lv_iconst (v := (nI 1)) hx hb dX9_isBalanced_103 (by decide) ?_
    obtain rfl := Option.some.inj hM
    exact hfin 104 _ _ _ dX9_isBalanced_104 hP hD hS
  have hE_2_1 : ∀ (r_2_1 : Unit), r_2 = .inr r_2_1 → ∀ (H : Heap) (locs : List Loc) (ls : Array Slot), va_P (gD g) vwCl [ob h_t 9 [.ref h_t_now, .ref h_t_read, .ref h_t_past, .int t_saved, .ref h_t_text, .int t_letters, .int t_stage, .ref h_t_part, .int t_size, .ref h_t_matrix, .ref h_t_power, .ref h_t_product, .ref h_t_poly, .ref h_t_old, .ref h_t_step, .ref h_t_column, .ref h_t_moved, .ref h_t_traces, .ref h_t_signed, .ref h_t_plus, .ref h_t_minus, .ref h_t_walk], aI g h_t_now 29 a_t_now] H → va_D A [ob h_t 9 [.ref h_t_now, .ref h_t_read, .ref h_t_past, .int t_saved, .ref h_t_text, .int t_letters, .int t_stage, .ref h_t_part, .int t_size, .ref h_t_matrix, .ref h_t_power, .ref h_t_product, .ref h_t_poly, .ref h_t_old, .ref h_t_step, .ref h_t_column, .ref h_t_moved, .ref h_t_traces, .ref h_t_signed, .ref h_t_plus, .ref h_t_minus, .ref h_t_walk], aI g h_t_now 29 a_t_now] → va_S A s.heap H locs → lv_has ls 5 [] → W p l e (rmv 1 22) s m args below meth c H locs 0 0 Q (F0 m 111 ls []) := by
    intro r_2_1 hr H locs ls hP hD hS hl
    have hM := ex2_1 hM hr
    refine lv_iconst (v := (nI 0)) hx hb dX9_isBalanced_111 (by decide) ?_
    obtain rfl := Option.some.inj hM
    exact hfin 112 _ _ _ dX9_isBalanced_112 hP hD hS
  clear hM
  have hL_2 : ∀ (n : Nat) (z_2 : Int32), it (b_X9_isBalanced_2 t_saved t_letters t_stage t_size a_t_now) n z_2 = some r_2 → ∀ (H : Heap) (locs : List Loc) (ls : Array Slot), va_P (gD g) vwCl [ob h_t 9 [.ref h_t_now, .ref h_t_read, .ref h_t_past, .int t_saved, .ref h_t_text, .int t_letters, .int t_stage, .ref h_t_part, .int t_size, .ref h_t_matrix, .ref h_t_power, .ref h_t_product, .ref h_t_poly, .ref h_t_old, .ref h_t_step, .ref h_t_column, .ref h_t_moved, .ref h_t_traces, .ref h_t_signed, .ref h_t_plus, .ref h_t_minus, .ref h_t_walk], aI g h_t_now 29 a_t_now] H → va_D A [ob h_t 9 [.ref h_t_now, .ref h_t_read, .ref h_t_past, .int t_saved, .ref h_t_text, .int t_letters, .int t_stage, .ref h_t_part, .int t_size, .ref h_t_matrix, .ref h_t_power, .ref h_t_product, .ref h_t_poly, .ref h_t_old, .ref h_t_step, .ref h_t_column, .ref h_t_moved, .ref h_t_traces, .ref h_t_signed, .ref h_t_plus, .ref h_t_minus, .ref h_t_walk], aI g h_t_now 29 a_t_now] → va_S A s.heap H locs → lv_has ls 5 [(1, .int z_2), (0, .ref h_t)] → W p l e (rmv 1 22) s m args below meth c H locs 0 0 Q (F0 m 2 ls []) := by
    intro n
    induction n with
    | zero => intro z_2 hn; exact (it_zero hn).elim
    | succ n ih =>
      intro z_2 hn H locs ls hP hD hS hl
      obtain ⟨x, hM, hX⟩ := it_succ hn
      clear hn
      refine lv_iload_n hx hb dX9_isBalanced_2 rfl (lv_at hl 0 rfl) ?_
      refine lv_iconst (v := (nI 1)) hx hb dX9_isBalanced_3 (by decide) ?_
      refine lv_aload_n hx hb dX9_isBalanced_4 rfl (lv_at hl 1 rfl) ?_
      refine w_get cx hP 0 9 0 rfl rfl (by decide) m_644 rfl rfl dX9_isBalanced_5 ?_
      refine lv_iconst (v := (nI 0)) hx hb dX9_isBalanced_8 (by decide) ?_
      obtain ⟨g_9, hM⟩ := gd_some hM
      refine w_iald cx hP 1 rfl g_9 dX9_isBalanced_9 ?_
      refine lv_ishl hx hb dX9_isBalanced_10 ?_
      refine lv_icmp_ge (tgt := 111) hx hb dX9_isBalanced_11 (by decide) (fun c_11 => ?_) (fun c_11 => ?_)
      · have hM := if_t hM c_11
        obtain rfl := Option.some.inj hM
        obtain rfl : _ = r_2 := hX
        exact hE_2_1 _ rfl _ _ _ hP hD hS (lv_sub hl [] rfl)
      · have hM := if_f hM c_11
        refine lv_iconst (v := (nI 1)) hx hb dX9_isBalanced_14 (by decide) ?_
        refine lv_istore_n (lv' := [(2, .int (nI 1)), (1, .int z_2), (0, .ref h_t)]) hx hb dX9_isBalanced_15 rfl hl (by decide) rfl (fun ls hl => ?_)
        refine lv_iconst (v := (nI 0)) hx hb dX9_isBalanced_16 (by decide) ?_
        refine lv_istore_n (lv' := [(3, .int (nI 0)), (2, .int (nI 1)), (1, .int z_2), (0, .ref h_t)]) hx hb dX9_isBalanced_17 rfl hl (by decide) rfl (fun ls hl => ?_)
        obtain ⟨r_18, hw, hM⟩ := bd_some hM
        obtain ⟨n, hn⟩ := wh_some hw
        clear hw
        have hE_18_0 : ∀ (H : Heap) (locs : List Loc) (ls : Array Slot), va_P (gD g) vwCl [ob h_t 9 [.ref h_t_now, .ref h_t_read, .ref h_t_past, .int t_saved, .ref h_t_text, .int t_letters, .int t_stage, .ref h_t_part, .int t_size, .ref h_t_matrix, .ref h_t_power, .ref h_t_product, .ref h_t_poly, .ref h_t_old, .ref h_t_step, .ref h_t_column, .ref h_t_moved, .ref h_t_traces, .ref h_t_signed, .ref h_t_plus, .ref h_t_minus, .ref h_t_walk], aI g h_t_now 29 a_t_now] H → va_D A [ob h_t 9 [.ref h_t_now, .ref h_t_read, .ref h_t_past, .int t_saved, .ref h_t_text, .int t_letters, .int t_stage, .ref h_t_part, .int t_size, .ref h_t_matrix, .ref h_t_power, .ref h_t_product, .ref h_t_poly, .ref h_t_old, .ref h_t_step, .ref h_t_column, .ref h_t_moved, .ref h_t_traces, .ref h_t_signed, .ref h_t_plus, .ref h_t_minus, .ref h_t_walk], aI g h_t_now 29 a_t_now] → va_S A s.heap H locs → lv_has ls 5 [(2, .int r_18), (1, .int z_2), (0, .ref h_t)] → W p l e (rmv 1 22) s m args below meth c H locs 0 0 Q (F0 m 99 ls []) := by
          intro H locs ls hP hD hS hl
          refine lv_iload_n hx hb dX9_isBalanced_99 rfl (lv_at hl 0 rfl) ?_
          refine lv_if_eq (tgt := 105) hx hb dX9_isBalanced_100 (by decide) (fun c_100 => ?_) (fun c_100 => ?_)
          · have hM := if_t hM c_100
            refine lv_iinc (v := z_2 + (nI 1)) (lv' := [(1, .int (z_2 + (nI 1))), (2, .int r_18), (0, .ref h_t)]) hx hb dX9_isBalanced_105 hl (k := 1) rfl (congrArg (fun q => z_2 + q) (show Int32.ofInt (1) = (nI 1) by decide)) (by decide) rfl (fun ls hl => ?_)
            refine lv_goto (tgt := 2) hx hb dX9_isBalanced_108 (by decide) ?_
            obtain rfl := Option.some.inj hM
            exact ih _ hX _ _ _ hP hD hS (lv_sub hl [0, 2] rfl)
          · have hM := if_f hM c_100
            obtain rfl := Option.some.inj hM
            obtain rfl : _ = r_2 := hX
            exact hE_2_0 _ rfl _ _ _ hP hD hS (lv_sub hl [] rfl)
        clear hM
        have hL_18 : ∀ (n : Nat) (z_18 : Int32 × Int32), it (b_X9_isBalanced_18 t_saved t_letters t_stage t_size a_t_now z_2) n z_18 = some r_18 → ∀ (H : Heap) (locs : List Loc) (ls : Array Slot), va_P (gD g) vwCl [ob h_t 9 [.ref h_t_now, .ref h_t_read, .ref h_t_past, .int t_saved, .ref h_t_text, .int t_letters, .int t_stage, .ref h_t_part, .int t_size, .ref h_t_matrix, .ref h_t_power, .ref h_t_product, .ref h_t_poly, .ref h_t_old, .ref h_t_step, .ref h_t_column, .ref h_t_moved, .ref h_t_traces, .ref h_t_signed, .ref h_t_plus, .ref h_t_minus, .ref h_t_walk], aI g h_t_now 29 a_t_now] H → va_D A [ob h_t 9 [.ref h_t_now, .ref h_t_read, .ref h_t_past, .int t_saved, .ref h_t_text, .int t_letters, .int t_stage, .ref h_t_part, .int t_size, .ref h_t_matrix, .ref h_t_power, .ref h_t_product, .ref h_t_poly, .ref h_t_old, .ref h_t_step, .ref h_t_column, .ref h_t_moved, .ref h_t_traces, .ref h_t_signed, .ref h_t_plus, .ref h_t_minus, .ref h_t_walk], aI g h_t_now 29 a_t_now] → va_S A s.heap H locs → lv_has ls 5 [(3, .int z_18.1), (2, .int z_18.2), (1, .int z_2), (0, .ref h_t)] → W p l e (rmv 1 22) s m args below meth c H locs 0 0 Q (F0 m 18 ls []) := by
          intro n
          induction n with
          | zero => intro z_18 hn; exact (it_zero hn).elim
          | succ n ih =>
            intro z_18 hn H locs ls hP hD hS hl
            obtain ⟨x, hM, hX⟩ := it_succ hn
            clear hn
            refine lv_iload_n hx hb dX9_isBalanced_18 rfl (lv_at hl 0 rfl) ?_
            refine lv_aload_n hx hb dX9_isBalanced_19 rfl (lv_at hl 3 rfl) ?_
            refine w_get cx hP 0 9 0 rfl rfl (by decide) m_644 rfl rfl dX9_isBalanced_20 ?_
            refine lv_iconst (v := (nI 1)) hx hb dX9_isBalanced_23 (by decide) ?_
            obtain ⟨g_24, hM⟩ := gd_some hM
            refine w_iald cx hP 1 rfl g_24 dX9_isBalanced_24 ?_
            refine lv_icmp_ge (tgt := 99) hx hb dX9_isBalanced_25 (by decide) (fun c_25 => ?_) (fun c_25 => ?_)
            · have hM := if_t hM c_25
              obtain rfl := Option.some.inj hM
              obtain rfl : _ = r_18 := hX
              exact hE_18_0 _ _ _ hP hD hS (lv_sub hl [1, 2, 3] rfl)
            · have hM := if_f hM c_25
              refine lv_iload_n hx hb dX9_isBalanced_28 rfl (lv_at hl 2 rfl) ?_
              refine lv_aload_n hx hb dX9_isBalanced_29 rfl (lv_at hl 3 rfl) ?_
              refine lv_iconst (v := (nI 2)) hx hb dX9_isBalanced_30 (by decide) ?_
              refine lv_iload_n hx hb dX9_isBalanced_31 rfl (lv_at hl 0 rfl) ?_
              refine lv_imul hx hb dX9_isBalanced_32 ?_
              refine lv_iconst (v := (nI 0)) hx hb dX9_isBalanced_33 (by decide) ?_
              obtain ⟨q_34, hc_34, hM⟩ := bd_some hM
              refine w_callV cx hP hD hS hA (c_X9_endOf g l h_t h_t_now h_t_read h_t_past h_t_text h_t_part h_t_matrix h_t_power h_t_product h_t_poly h_t_old h_t_step h_t_column h_t_moved h_t_traces h_t_signed h_t_plus h_t_minus h_t_walk ((nI 2) * z_18.1) (nI 0) t_saved t_letters t_stage t_size a_t_now hc_34) [0, 1] rfl (by decide) rfl [ob h_t 9 [.ref h_t_now, .ref h_t_read, .ref h_t_past, .int t_saved, .ref h_t_text, .int t_letters, .int t_stage, .ref h_t_part, .int t_size, .ref h_t_matrix, .ref h_t_power, .ref h_t_product, .ref h_t_poly, .ref h_t_old, .ref h_t_step, .ref h_t_column, .ref h_t_moved, .ref h_t_traces, .ref h_t_signed, .ref h_t_plus, .ref h_t_minus, .ref h_t_walk], aI g h_t_now 29 a_t_now] rfl 0 9 rfl rfl yq_X9_endOf rfl m_782 m_784 m_22 m_51 m_785 ⟨Nat.le_of_ble_eq_true rfl, Nat.le_of_ble_eq_true rfl⟩ rfl rfl hl.1 (Nat.le_of_ble_eq_true rfl) dX9_isBalanced_34 ⟨Nat.le_refl 0, Nat.le_refl 0⟩ rfl (fun H locs hP hD hS => ?_)
              refine lv_ishr hx hb dX9_isBalanced_37 ?_
              refine lv_iconst (v := (nI 1)) hx hb dX9_isBalanced_38 (by decide) ?_
              refine lv_iand hx hb dX9_isBalanced_39 ?_
              refine lv_iload_n hx hb dX9_isBalanced_40 rfl (lv_at hl 2 rfl) ?_
              refine lv_aload_n hx hb dX9_isBalanced_41 rfl (lv_at hl 3 rfl) ?_
              refine lv_iconst (v := (nI 2)) hx hb dX9_isBalanced_42 (by decide) ?_
              refine lv_iload_n hx hb dX9_isBalanced_43 rfl (lv_at hl 0 rfl) ?_
              refine lv_imul hx hb dX9_isBalanced_44 ?_
              refine lv_iconst (v := (nI 1)) hx hb dX9_isBalanced_45 (by decide) ?_
              obtain ⟨q_46, hc_46, hM⟩ := bd_some hM
              refine w_callV cx hP hD hS hA (c_X9_endOf g l h_t h_t_now h_t_read h_t_past h_t_text h_t_part h_t_matrix h_t_power h_t_product h_t_poly h_t_old h_t_step h_t_column h_t_moved h_t_traces h_t_signed h_t_plus h_t_minus h_t_walk ((nI 2) * z_18.1) (nI 1) t_saved t_letters t_stage t_size a_t_now hc_46) [0, 1] rfl (by decide) rfl [ob h_t 9 [.ref h_t_now, .ref h_t_read, .ref h_t_past, .int t_saved, .ref h_t_text, .int t_letters, .int t_stage, .ref h_t_part, .int t_size, .ref h_t_matrix, .ref h_t_power, .ref h_t_product, .ref h_t_poly, .ref h_t_old, .ref h_t_step, .ref h_t_column, .ref h_t_moved, .ref h_t_traces, .ref h_t_signed, .ref h_t_plus, .ref h_t_minus, .ref h_t_walk], aI g h_t_now 29 a_t_now] rfl 0 9 rfl rfl yq_X9_endOf rfl m_782 m_784 m_22 m_51 m_785 ⟨Nat.le_of_ble_eq_true rfl, Nat.le_of_ble_eq_true rfl⟩ rfl rfl hl.1 (Nat.le_of_ble_eq_true rfl) dX9_isBalanced_46 ⟨Nat.le_refl 0, Nat.le_refl 0⟩ rfl (fun H locs hP hD hS => ?_)
              refine lv_ishr hx hb dX9_isBalanced_49 ?_
              refine lv_iconst (v := (nI 1)) hx hb dX9_isBalanced_50 (by decide) ?_
              refine lv_iand hx hb dX9_isBalanced_51 ?_
              obtain ⟨j_52, hB, hM⟩ := bd_some hM
              have hJ_52 : ∀ (H : Heap) (locs : List Loc) (ls : Array Slot), va_P (gD g) vwCl [ob h_t 9 [.ref h_t_now, .ref h_t_read, .ref h_t_past, .int t_saved, .ref h_t_text, .int t_letters, .int t_stage, .ref h_t_part, .int t_size, .ref h_t_matrix, .ref h_t_power, .ref h_t_product, .ref h_t_poly, .ref h_t_old, .ref h_t_step, .ref h_t_column, .ref h_t_moved, .ref h_t_traces, .ref h_t_signed, .ref h_t_plus, .ref h_t_minus, .ref h_t_walk], aI g h_t_now 29 a_t_now] H → va_D A [ob h_t 9 [.ref h_t_now, .ref h_t_read, .ref h_t_past, .int t_saved, .ref h_t_text, .int t_letters, .int t_stage, .ref h_t_part, .int t_size, .ref h_t_matrix, .ref h_t_power, .ref h_t_product, .ref h_t_poly, .ref h_t_old, .ref h_t_step, .ref h_t_column, .ref h_t_moved, .ref h_t_traces, .ref h_t_signed, .ref h_t_plus, .ref h_t_minus, .ref h_t_walk], aI g h_t_now 29 a_t_now] → va_S A s.heap H locs → lv_has ls 5 [(3, .int z_18.1), (2, .int z_18.2), (1, .int z_2), (0, .ref h_t)] → W p l e (rmv 1 22) s m args below meth c H locs 0 0 Q (F0 m 60 ls [.int j_52]) := by
                intro H locs ls hP hD hS hl
                refine lv_istore (lv' := [(4, .int j_52), (3, .int z_18.1), (2, .int z_18.2), (1, .int z_2), (0, .ref h_t)]) hx hb dX9_isBalanced_60 hl (by decide) rfl (fun ls hl => ?_)
                refine lv_iload_n hx hb dX9_isBalanced_62 rfl (lv_at hl 2 rfl) ?_
                obtain ⟨j_63, hB, hM⟩ := bd_some hM
                have hJ_63 : ∀ (H : Heap) (locs : List Loc) (ls : Array Slot), va_P (gD g) vwCl [ob h_t 9 [.ref h_t_now, .ref h_t_read, .ref h_t_past, .int t_saved, .ref h_t_text, .int t_letters, .int t_stage, .ref h_t_part, .int t_size, .ref h_t_matrix, .ref h_t_power, .ref h_t_product, .ref h_t_poly, .ref h_t_old, .ref h_t_step, .ref h_t_column, .ref h_t_moved, .ref h_t_traces, .ref h_t_signed, .ref h_t_plus, .ref h_t_minus, .ref h_t_walk], aI g h_t_now 29 a_t_now] H → va_D A [ob h_t 9 [.ref h_t_now, .ref h_t_read, .ref h_t_past, .int t_saved, .ref h_t_text, .int t_letters, .int t_stage, .ref h_t_part, .int t_size, .ref h_t_matrix, .ref h_t_power, .ref h_t_product, .ref h_t_poly, .ref h_t_old, .ref h_t_step, .ref h_t_column, .ref h_t_moved, .ref h_t_traces, .ref h_t_signed, .ref h_t_plus, .ref h_t_minus, .ref h_t_walk], aI g h_t_now 29 a_t_now] → va_S A s.heap H locs → lv_has ls 5 [(3, .int z_18.1), (1, .int z_2), (0, .ref h_t)] → W p l e (rmv 1 22) s m args below meth c H locs 0 0 Q (F0 m 92 ls [.int j_63]) := by
                  intro H locs ls hP hD hS hl
                  refine lv_istore_n (lv' := [(2, .int j_63), (3, .int z_18.1), (1, .int z_2), (0, .ref h_t)]) hx hb dX9_isBalanced_92 rfl hl (by decide) rfl (fun ls hl => ?_)
                  refine lv_iinc (v := z_18.1 + (nI 1)) (lv' := [(3, .int (z_18.1 + (nI 1))), (2, .int j_63), (1, .int z_2), (0, .ref h_t)]) hx hb dX9_isBalanced_93 hl (k := 1) rfl (congrArg (fun q => z_18.1 + q) (show Int32.ofInt (1) = (nI 1) by decide)) (by decide) rfl (fun ls hl => ?_)
                  refine lv_goto (tgt := 18) hx hb dX9_isBalanced_96 (by decide) ?_
                  obtain rfl := Option.some.inj hM
                  exact ih _ hX _ _ _ hP hD hS (lv_sub hl [0, 1, 2, 3] rfl)
                clear hM
                have hM := hB
                clear hB
                refine lv_if_eq (tgt := 91) hx hb dX9_isBalanced_63 (by decide) (fun c_63 => ?_) (fun c_63 => ?_)
                · have hM := if_t hM c_63
                  refine lv_iconst (v := (nI 0)) hx hb dX9_isBalanced_91 (by decide) ?_
                  obtain rfl := Option.some.inj hM
                  exact hJ_63 _ _ _ hP hD hS (lv_sub hl [1, 3, 4] rfl)
                · have hM := if_f hM c_63
                  refine lv_iload hx hb dX9_isBalanced_66 (lv_at hl 0 rfl) ?_
                  refine lv_aload_n hx hb dX9_isBalanced_68 rfl (lv_at hl 4 rfl) ?_
                  refine lv_iconst (v := (nI 2)) hx hb dX9_isBalanced_69 (by decide) ?_
                  refine lv_iload_n hx hb dX9_isBalanced_70 rfl (lv_at hl 1 rfl) ?_
                  refine lv_imul hx hb dX9_isBalanced_71 ?_
                  obtain ⟨q_72, hc_72, hM⟩ := bd_some hM
                  refine w_callV cx hP hD hS hA (c_X9_signOf g l h_t h_t_now h_t_read h_t_past h_t_text h_t_part h_t_matrix h_t_power h_t_product h_t_poly h_t_old h_t_step h_t_column h_t_moved h_t_traces h_t_signed h_t_plus h_t_minus h_t_walk ((nI 2) * z_18.1) t_saved t_letters t_stage t_size a_t_now hc_72) [0, 1] rfl (by decide) rfl [ob h_t 9 [.ref h_t_now, .ref h_t_read, .ref h_t_past, .int t_saved, .ref h_t_text, .int t_letters, .int t_stage, .ref h_t_part, .int t_size, .ref h_t_matrix, .ref h_t_power, .ref h_t_product, .ref h_t_poly, .ref h_t_old, .ref h_t_step, .ref h_t_column, .ref h_t_moved, .ref h_t_traces, .ref h_t_signed, .ref h_t_plus, .ref h_t_minus, .ref h_t_walk], aI g h_t_now 29 a_t_now] rfl 0 9 rfl rfl yq_X9_signOf rfl m_818 m_820 m_26 m_51 m_821 ⟨Nat.le_of_ble_eq_true rfl, Nat.le_of_ble_eq_true rfl⟩ rfl rfl hl.1 (Nat.le_of_ble_eq_true rfl) dX9_isBalanced_72 ⟨Nat.le_refl 0, Nat.le_refl 0⟩ rfl (fun H locs hP hD hS => ?_)
                  refine lv_iconst (v := (nI 4294967295)) hx hb dX9_isBalanced_75 (by decide) ?_
                  obtain ⟨j_76, hB, hM⟩ := bd_some hM
                  have hJ_76 : ∀ (H : Heap) (locs : List Loc) (ls : Array Slot), va_P (gD g) vwCl [ob h_t 9 [.ref h_t_now, .ref h_t_read, .ref h_t_past, .int t_saved, .ref h_t_text, .int t_letters, .int t_stage, .ref h_t_part, .int t_size, .ref h_t_matrix, .ref h_t_power, .ref h_t_product, .ref h_t_poly, .ref h_t_old, .ref h_t_step, .ref h_t_column, .ref h_t_moved, .ref h_t_traces, .ref h_t_signed, .ref h_t_plus, .ref h_t_minus, .ref h_t_walk], aI g h_t_now 29 a_t_now] H → va_D A [ob h_t 9 [.ref h_t_now, .ref h_t_read, .ref h_t_past, .int t_saved, .ref h_t_text, .int t_letters, .int t_stage, .ref h_t_part, .int t_size, .ref h_t_matrix, .ref h_t_power, .ref h_t_product, .ref h_t_poly, .ref h_t_old, .ref h_t_step, .ref h_t_column, .ref h_t_moved, .ref h_t_traces, .ref h_t_signed, .ref h_t_plus, .ref h_t_minus, .ref h_t_walk], aI g h_t_now 29 a_t_now] → va_S A s.heap H locs → lv_has ls 5 [(3, .int z_18.1), (1, .int z_2), (0, .ref h_t)] → W p l e (rmv 1 22) s m args below meth c H locs 0 0 Q (F0 m 84 ls [.int j_76, .int j_52]) := by
                    intro H locs ls hP hD hS hl
                    refine lv_icmp_ne (tgt := 91) hx hb dX9_isBalanced_84 (by decide) (fun c_84 => ?_) (fun c_84 => ?_)
                    · have hM := if_f hM c_84
                      refine lv_iconst (v := (nI 0)) hx hb dX9_isBalanced_91 (by decide) ?_
                      obtain rfl := Option.some.inj hM
                      exact hJ_63 _ _ _ hP hD hS (lv_sub hl [0, 1, 2] rfl)
                    · have hM := if_t hM c_84
                      refine lv_iconst (v := (nI 1)) hx hb dX9_isBalanced_87 (by decide) ?_
                      refine lv_goto (tgt := 92) hx hb dX9_isBalanced_88 (by decide) ?_
                      obtain rfl := Option.some.inj hM
                      exact hJ_63 _ _ _ hP hD hS (lv_sub hl [0, 1, 2] rfl)
                  clear hM
                  have hM := hB
                  clear hB
                  refine lv_icmp_ne (tgt := 83) hx hb dX9_isBalanced_76 (by decide) (fun c_76 => ?_) (fun c_76 => ?_)
                  · have hM := if_f hM c_76
                    refine lv_iconst (v := (nI 0)) hx hb dX9_isBalanced_83 (by decide) ?_
                    obtain rfl := Option.some.inj hM
                    exact hJ_76 _ _ _ hP hD hS (lv_sub hl [1, 3, 4] rfl)
                  · have hM := if_t hM c_76
                    refine lv_iconst (v := (nI 1)) hx hb dX9_isBalanced_79 (by decide) ?_
                    refine lv_goto (tgt := 84) hx hb dX9_isBalanced_80 (by decide) ?_
                    obtain rfl := Option.some.inj hM
                    exact hJ_76 _ _ _ hP hD hS (lv_sub hl [1, 3, 4] rfl)
              clear hM
              have hM := hB
              clear hB
              refine lv_icmp_eq (tgt := 59) hx hb dX9_isBalanced_52 (by decide) (fun c_52 => ?_) (fun c_52 => ?_)
              · have hM := if_t hM c_52
                refine lv_iconst (v := (nI 0)) hx hb dX9_isBalanced_59 (by decide) ?_
                obtain rfl := Option.some.inj hM
                exact hJ_52 _ _ _ hP hD hS (lv_sub hl [0, 1, 2, 3] rfl)
              · have hM := if_f hM c_52
                refine lv_iconst (v := (nI 1)) hx hb dX9_isBalanced_55 (by decide) ?_
                refine lv_goto (tgt := 60) hx hb dX9_isBalanced_56 (by decide) ?_
                obtain rfl := Option.some.inj hM
                exact hJ_52 _ _ _ hP hD hS (lv_sub hl [0, 1, 2, 3] rfl)
        exact hL_18 n _ hn _ _ _ hP hD hS (lv_sub hl [0, 1, 2, 3] rfl)
  exact hL_2 n _ hn _ _ _ hP hD hS (lv_sub hl [0, 1] rfl)
