noncomputable def f_X8_configure (p1 : Int32) (t_graph_vertices : Int32) (t_graph_edges : Int32) (a_t_graph_firsts : Nat → Int32) (a_t_graph_seconds : Nat → Int32) (a_t_graph_signs : Nat → Int32) (t_history_count : Int32) (o_t_history_saved : List Nat) (C_t_history_saved : Nat → GC) : Option (Int32 × Int32 × Int32 × Int32 × List Nat × (Nat → GC)) :=
  if p1 < (nI 1) then some ((nI 4294967295), t_graph_vertices, t_graph_edges, t_history_count, o_t_history_saved, C_t_history_saved) else if p1 ≤ (nI 6) then bd (f_X4_save t_history_count t_graph_vertices t_graph_edges a_t_graph_firsts a_t_graph_seconds a_t_graph_signs o_t_history_saved C_t_history_saved) (fun (q_29 : Int32 × List Nat × (Nat → GC)) => bd (f_X2_makeEmpty p1 t_graph_vertices t_graph_edges) (fun (q_37 : Int32 × Int32) => some (t_graph_vertices, q_37.1, q_37.2, q_29.1, q_29.2.1, q_29.2.2))) else some ((nI 4294967295), t_graph_vertices, t_graph_edges, t_history_count, o_t_history_saved, C_t_history_saved)
theorem yq_X8_configure : yq yX8_configure 1 := by unfold yq; decide +kernel
set_option maxHeartbeats 4000000 in
set_option maxRecDepth 100000 in
theorem c_X8_configure (g : GG) (l : Launch) (h_t : Nat) (h_t_graph : Nat) (h_t_draft : Nat) (h_t_history : Nat) (h_t_text : Nat) (h_t_grouping : Nat) (h_t_counter : Nat) (h_t_search : Nat) (h_t_edgePolynomial : Nat) (h_t_vertexPolynomial : Nat) (h_t_graph_firsts : Nat) (h_t_graph_seconds : Nat) (h_t_graph_signs : Nat) (h_t_history_saved : Nat) (ga_h_t_history_saved : Nat → Nat) (fa_h_t_history_saved : Nat → Nat) (sa_h_t_history_saved : Nat → Nat) (na_h_t_history_saved : Nat → Nat) (p1 : Int32) (t_graph_vertices : Int32) (t_graph_edges : Int32) (a_t_graph_firsts : Nat → Int32) (a_t_graph_seconds : Nat → Int32) (a_t_graph_signs : Nat → Int32) (t_history_count : Int32) (o_t_history_saved : List Nat) (C_t_history_saved : Nat → GC) {R : Int32 × Int32 × Int32 × Int32 × List Nat × (Nat → GC)} (hM : f_X8_configure p1 t_graph_vertices t_graph_edges a_t_graph_firsts a_t_graph_seconds a_t_graph_signs t_history_count o_t_history_saved C_t_history_saved = some R) : CT g l yX8_configure cX8_configure 3 (some .int) 2 43 [.ref h_t, .int p1] ([ob h_t 8 [.ref h_t_graph, .ref h_t_draft, .ref h_t_history, .ref h_t_text, .ref h_t_grouping, .ref h_t_counter, .ref h_t_search, .ref h_t_edgePolynomial, .ref h_t_vertexPolynomial], ob h_t_graph 2 [.int t_graph_vertices, .int t_graph_edges, .ref h_t_graph_firsts, .ref h_t_graph_seconds, .ref h_t_graph_signs], aI g h_t_graph_firsts 9 a_t_graph_firsts, aI g h_t_graph_seconds 9 a_t_graph_seconds, aI g h_t_graph_signs 9 a_t_graph_signs, ob h_t_history 4 [.int t_history_count, .ref h_t_history_saved]] ++ (grp g h_t_history_saved ga_h_t_history_saved fa_h_t_history_saved sa_h_t_history_saved na_h_t_history_saved o_t_history_saved C_t_history_saved)) ([ob h_t 8 [.ref h_t_graph, .ref h_t_draft, .ref h_t_history, .ref h_t_text, .ref h_t_grouping, .ref h_t_counter, .ref h_t_search, .ref h_t_edgePolynomial, .ref h_t_vertexPolynomial], ob h_t_graph 2 [.int R.2.1, .int R.2.2.1, .ref h_t_graph_firsts, .ref h_t_graph_seconds, .ref h_t_graph_signs], aI g h_t_graph_firsts 9 a_t_graph_firsts, aI g h_t_graph_seconds 9 a_t_graph_seconds, aI g h_t_graph_signs 9 a_t_graph_signs, ob h_t_history 4 [.int R.2.2.2.1, .ref h_t_history_saved]] ++ (grp g h_t_history_saved ga_h_t_history_saved fa_h_t_history_saved sa_h_t_history_saved na_h_t_history_saved R.2.2.2.2.1 R.2.2.2.2.2)) (some (.int R.1)) := by
  refine ct_i (by decide +kernel) (Nat.le_of_ble_eq_true rfl) ?_
  intro p e s m args below meth c Q A ls cx hP hD hA hl hfin
  obtain ⟨hx, hb, hml, hown, hts, hK⟩ := id cx
  have hl : lv_has ls 3 [(0, .ref h_t), (1, .int p1)] := hl
  have hS : va_S A s.heap s.heap [] := va_S.rf
  refine lv_iload_n hx hb dX8_configure_0 rfl (lv_at hl 1 rfl) ?_
  refine lv_iconst (v := (nI 1)) hx hb dX8_configure_1 (by decide) ?_
  refine lv_icmp_lt (tgt := 11) hx hb dX8_configure_2 (by decide) (fun c_2 => ?_) (fun c_2 => ?_)
  · have hM := if_t hM c_2
    refine lv_iconst (v := (nI 4294967295)) hx hb dX8_configure_11 (by decide) ?_
    obtain rfl := Option.some.inj hM
    exact hfin 12 _ _ _ dX8_configure_12 hP hD hS
  · have hM := if_f hM c_2
    refine lv_iload_n hx hb dX8_configure_5 rfl (lv_at hl 1 rfl) ?_
    refine lv_bipush (v := (nI 6)) hx hb dX8_configure_6 (by decide) ?_
    refine lv_icmp_le (tgt := 13) hx hb dX8_configure_8 (by decide) (fun c_8 => ?_) (fun c_8 => ?_)
    · have hM := if_t hM c_8
      refine lv_aload_n hx hb dX8_configure_13 rfl (lv_at hl 0 rfl) ?_
      refine w_get cx hP 0 8 0 rfl rfl (by decide) m_203 rfl rfl dX8_configure_14 ?_
      refine w_getN cx hP 1 2 0 rfl rfl (by decide) n_45 rfl rfl dX8_configure_17 ?_
      refine lv_istore_n (lv' := [(2, .int t_graph_vertices), (0, .ref h_t), (1, .int p1)]) hx hb dX8_configure_20 rfl hl (by decide) rfl (fun ls hl => ?_)
      refine lv_aload_n hx hb dX8_configure_21 rfl (lv_at hl 1 rfl) ?_
      refine w_get cx hP 0 8 2 rfl rfl (by decide) m_205 rfl rfl dX8_configure_22 ?_
      refine lv_aload_n hx hb dX8_configure_25 rfl (lv_at hl 1 rfl) ?_
      refine w_get cx hP 0 8 0 rfl rfl (by decide) m_203 rfl rfl dX8_configure_26 ?_
      obtain ⟨q_29, hc_29, hM⟩ := bd_some hM
      refine w_callV cx hP hD hS hA (c_X4_save g l h_t_history h_t_history_saved h_t_graph h_t_graph_firsts h_t_graph_seconds h_t_graph_signs ga_h_t_history_saved fa_h_t_history_saved sa_h_t_history_saved na_h_t_history_saved t_history_count t_graph_vertices t_graph_edges a_t_graph_firsts a_t_graph_seconds a_t_graph_signs o_t_history_saved C_t_history_saved hc_29) ([5, 1, 2, 3, 4] ++ blk 6 33) (blk_C rfl grp_len rfl) (blk_nd (by decide) (by decide)) (blk_f rfl grp_f) ([ob h_t 8 [.ref h_t_graph, .ref h_t_draft, .ref h_t_history, .ref h_t_text, .ref h_t_grouping, .ref h_t_counter, .ref h_t_search, .ref h_t_edgePolynomial, .ref h_t_vertexPolynomial], ob h_t_graph 2 [.int t_graph_vertices, .int t_graph_edges, .ref h_t_graph_firsts, .ref h_t_graph_seconds, .ref h_t_graph_signs], aI g h_t_graph_firsts 9 a_t_graph_firsts, aI g h_t_graph_seconds 9 a_t_graph_seconds, aI g h_t_graph_signs 9 a_t_graph_signs, ob h_t_history 4 [.int q_29.1, .ref h_t_history_saved]] ++ (grp g h_t_history_saved ga_h_t_history_saved fa_h_t_history_saved sa_h_t_history_saved na_h_t_history_saved q_29.2.1 q_29.2.2)) (blk_S rfl grp_len grp_len rfl (by decide) rfl) 5 4 rfl rfl yq_X4_save rfl m_243 m_244 m_245 m_19 m_246 ⟨Nat.le_of_ble_eq_true rfl, Nat.le_of_ble_eq_true rfl⟩ rfl rfl hl.1 (Nat.le_of_ble_eq_true rfl) dX8_configure_29 ⟨Nat.le_refl 0, Nat.le_refl 0⟩ rfl (fun H locs hP hD hS => ?_)
      refine lv_aload_n hx hb dX8_configure_32 rfl (lv_at hl 1 rfl) ?_
      refine w_get cx hP 0 8 0 rfl rfl (by decide) m_203 rfl rfl dX8_configure_33 ?_
      refine lv_iload_n hx hb dX8_configure_36 rfl (lv_at hl 2 rfl) ?_
      obtain ⟨q_37, hc_37, hM⟩ := bd_some hM
      refine w_callV cx hP hD hS hA (c_X2_makeEmpty g l h_t_graph h_t_graph_firsts h_t_graph_seconds h_t_graph_signs p1 t_graph_vertices t_graph_edges hc_37) [1] rfl (by decide) rfl ([ob h_t 8 [.ref h_t_graph, .ref h_t_draft, .ref h_t_history, .ref h_t_text, .ref h_t_grouping, .ref h_t_counter, .ref h_t_search, .ref h_t_edgePolynomial, .ref h_t_vertexPolynomial], ob h_t_graph 2 [.int q_37.1, .int q_37.2, .ref h_t_graph_firsts, .ref h_t_graph_seconds, .ref h_t_graph_signs], aI g h_t_graph_firsts 9 a_t_graph_firsts, aI g h_t_graph_seconds 9 a_t_graph_seconds, aI g h_t_graph_signs 9 a_t_graph_signs, ob h_t_history 4 [.int q_29.1, .ref h_t_history_saved]] ++ (grp g h_t_history_saved ga_h_t_history_saved fa_h_t_history_saved sa_h_t_history_saved na_h_t_history_saved q_29.2.1 q_29.2.2)) rfl 1 2 rfl rfl yq_X2_makeEmpty rfl m_280 m_281 m_282 m_18 m_283 ⟨Nat.le_of_ble_eq_true rfl, Nat.le_of_ble_eq_true rfl⟩ rfl rfl hl.1 (Nat.le_of_ble_eq_true rfl) dX8_configure_37 ⟨Nat.le_refl 0, Nat.le_refl 0⟩ rfl (fun H locs hP hD hS => ?_)
      refine lv_iload_n hx hb dX8_configure_40 rfl (lv_at hl 0 rfl) ?_
      obtain rfl := Option.some.inj hM
      exact hfin 41 _ _ _ dX8_configure_41 hP hD hS
    · have hM := if_f hM c_8
      refine lv_iconst (v := (nI 4294967295)) hx hb dX8_configure_11 (by decide) ?_
      obtain rfl := Option.some.inj hM
      exact hfin 12 _ _ _ dX8_configure_12 hP hD hS
noncomputable def f_X8_addEdge (p1 : Int32) (p2 : Int32) (p3 : Int32) (t_graph_vertices : Int32) (t_graph_edges : Int32) (a_t_graph_firsts : Nat → Int32) (a_t_graph_seconds : Nat → Int32) (a_t_graph_signs : Nat → Int32) (t_history_count : Int32) (o_t_history_saved : List Nat) (C_t_history_saved : Nat → GC) : Option (Int32 × Int32 × (Nat → Int32) × (Nat → Int32) × (Nat → Int32) × Int32 × List Nat × (Nat → GC)) :=
  bd (f_X2_hasVertex p1 t_graph_vertices t_graph_edges) (fun (q_5 : Int32) => if q_5 = 0 then some ((nI 4294967295), t_graph_edges, a_t_graph_firsts, a_t_graph_seconds, a_t_graph_signs, t_history_count, o_t_history_saved, C_t_history_saved) else bd (f_X2_hasVertex p2 t_graph_vertices t_graph_edges) (fun (q_16 : Int32) => if q_16 = 0 then some ((nI 4294967295), t_graph_edges, a_t_graph_firsts, a_t_graph_seconds, a_t_graph_signs, t_history_count, o_t_history_saved, C_t_history_saved) else if p1 = p2 then some ((nI 4294967295), t_graph_edges, a_t_graph_firsts, a_t_graph_seconds, a_t_graph_signs, t_history_count, o_t_history_saved, C_t_history_saved) else if p3 = (nI 1) then bd (f_X2_isFull t_graph_vertices t_graph_edges) (fun (q_45 : Int32) => if q_45 = 0 then bd (f_X4_save t_history_count t_graph_vertices t_graph_edges a_t_graph_firsts a_t_graph_seconds a_t_graph_signs o_t_history_saved C_t_history_saved) (fun (q_62 : Int32 × List Nat × (Nat → GC)) => bd (f_X2_append p1 p2 p3 t_graph_vertices t_graph_edges a_t_graph_firsts a_t_graph_seconds a_t_graph_signs) (fun (q_72 : Int32 × (Nat → Int32) × (Nat → Int32) × (Nat → Int32)) => some (q_72.1 - (nI 1), q_72.1, q_72.2.1, q_72.2.2.1, q_72.2.2.2, q_62.1, q_62.2.1, q_62.2.2))) else some ((nI 4294967293), t_graph_edges, a_t_graph_firsts, a_t_graph_seconds, a_t_graph_signs, t_history_count, o_t_history_saved, C_t_history_saved)) else if p3 = (nI 4294967295) then bd (f_X2_isFull t_graph_vertices t_graph_edges) (fun (q_45 : Int32) => if q_45 = 0 then bd (f_X4_save t_history_count t_graph_vertices t_graph_edges a_t_graph_firsts a_t_graph_seconds a_t_graph_signs o_t_history_saved C_t_history_saved) (fun (q_62 : Int32 × List Nat × (Nat → GC)) => bd (f_X2_append p1 p2 p3 t_graph_vertices t_graph_edges a_t_graph_firsts a_t_graph_seconds a_t_graph_signs) (fun (q_72 : Int32 × (Nat → Int32) × (Nat → Int32) × (Nat → Int32)) => some (q_72.1 - (nI 1), q_72.1, q_72.2.1, q_72.2.2.1, q_72.2.2.2, q_62.1, q_62.2.1, q_62.2.2))) else some ((nI 4294967293), t_graph_edges, a_t_graph_firsts, a_t_graph_seconds, a_t_graph_signs, t_history_count, o_t_history_saved, C_t_history_saved)) else some ((nI 4294967295), t_graph_edges, a_t_graph_firsts, a_t_graph_seconds, a_t_graph_signs, t_history_count, o_t_history_saved, C_t_history_saved)))
theorem yq_X8_addEdge : yq yX8_addEdge 3 := by unfold yq; decide +kernel
set_option maxHeartbeats 4000000 in
set_option maxRecDepth 100000 in
theorem c_X8_addEdge (g : GG) (l : Launch) (h_t : Nat) (h_t_graph : Nat) (h_t_draft : Nat) (h_t_history : Nat) (h_t_text : Nat) (h_t_grouping : Nat) (h_t_counter : Nat) (h_t_search : Nat) (h_t_edgePolynomial : Nat) (h_t_vertexPolynomial : Nat) (h_t_graph_firsts : Nat) (h_t_graph_seconds : Nat) (h_t_graph_signs : Nat) (h_t_history_saved : Nat) (ga_h_t_history_saved : Nat → Nat) (fa_h_t_history_saved : Nat → Nat) (sa_h_t_history_saved : Nat → Nat) (na_h_t_history_saved : Nat → Nat) (p1 : Int32) (p2 : Int32) (p3 : Int32) (t_graph_vertices : Int32) (t_graph_edges : Int32) (a_t_graph_firsts : Nat → Int32) (a_t_graph_seconds : Nat → Int32) (a_t_graph_signs : Nat → Int32) (t_history_count : Int32) (o_t_history_saved : List Nat) (C_t_history_saved : Nat → GC) {R : Int32 × Int32 × (Nat → Int32) × (Nat → Int32) × (Nat → Int32) × Int32 × List Nat × (Nat → GC)} (hM : f_X8_addEdge p1 p2 p3 t_graph_vertices t_graph_edges a_t_graph_firsts a_t_graph_seconds a_t_graph_signs t_history_count o_t_history_saved C_t_history_saved = some R) : CT g l yX8_addEdge cX8_addEdge 4 (some .int) 2 43 [.ref h_t, .int p1, .int p2, .int p3] ([ob h_t 8 [.ref h_t_graph, .ref h_t_draft, .ref h_t_history, .ref h_t_text, .ref h_t_grouping, .ref h_t_counter, .ref h_t_search, .ref h_t_edgePolynomial, .ref h_t_vertexPolynomial], ob h_t_graph 2 [.int t_graph_vertices, .int t_graph_edges, .ref h_t_graph_firsts, .ref h_t_graph_seconds, .ref h_t_graph_signs], aI g h_t_graph_firsts 9 a_t_graph_firsts, aI g h_t_graph_seconds 9 a_t_graph_seconds, aI g h_t_graph_signs 9 a_t_graph_signs, ob h_t_history 4 [.int t_history_count, .ref h_t_history_saved]] ++ (grp g h_t_history_saved ga_h_t_history_saved fa_h_t_history_saved sa_h_t_history_saved na_h_t_history_saved o_t_history_saved C_t_history_saved)) ([ob h_t 8 [.ref h_t_graph, .ref h_t_draft, .ref h_t_history, .ref h_t_text, .ref h_t_grouping, .ref h_t_counter, .ref h_t_search, .ref h_t_edgePolynomial, .ref h_t_vertexPolynomial], ob h_t_graph 2 [.int t_graph_vertices, .int R.2.1, .ref h_t_graph_firsts, .ref h_t_graph_seconds, .ref h_t_graph_signs], aI g h_t_graph_firsts 9 R.2.2.1, aI g h_t_graph_seconds 9 R.2.2.2.1, aI g h_t_graph_signs 9 R.2.2.2.2.1, ob h_t_history 4 [.int R.2.2.2.2.2.1, .ref h_t_history_saved]] ++ (grp g h_t_history_saved ga_h_t_history_saved fa_h_t_history_saved sa_h_t_history_saved na_h_t_history_saved R.2.2.2.2.2.2.1 R.2.2.2.2.2.2.2)) (some (.int R.1)) := by
  refine ct_i (by decide +kernel) (Nat.le_of_ble_eq_true rfl) ?_
  intro p e s m args below meth c Q A ls cx hP hD hA hl hfin
  obtain ⟨hx, hb, hml, hown, hts, hK⟩ := id cx
  have hl : lv_has ls 4 [(0, .ref h_t), (1, .int p1), (2, .int p2), (3, .int p3)] := hl
  have hS : va_S A s.heap s.heap [] := va_S.rf
  refine lv_aload_n hx hb dX8_addEdge_0 rfl (lv_at hl 0 rfl) ?_
  refine w_get cx hP 0 8 0 rfl rfl (by decide) m_203 rfl rfl dX8_addEdge_1 ?_
  refine lv_iload_n hx hb dX8_addEdge_4 rfl (lv_at hl 1 rfl) ?_
  obtain ⟨q_5, hc_5, hM⟩ := bd_some hM
  refine w_callV cx hP hD hS hA (c_X2_hasVertex g l h_t_graph h_t_graph_firsts h_t_graph_seconds h_t_graph_signs p1 t_graph_vertices t_graph_edges hc_5) [1] rfl (by decide) rfl ([ob h_t 8 [.ref h_t_graph, .ref h_t_draft, .ref h_t_history, .ref h_t_text, .ref h_t_grouping, .ref h_t_counter, .ref h_t_search, .ref h_t_edgePolynomial, .ref h_t_vertexPolynomial], ob h_t_graph 2 [.int t_graph_vertices, .int t_graph_edges, .ref h_t_graph_firsts, .ref h_t_graph_seconds, .ref h_t_graph_signs], aI g h_t_graph_firsts 9 a_t_graph_firsts, aI g h_t_graph_seconds 9 a_t_graph_seconds, aI g h_t_graph_signs 9 a_t_graph_signs, ob h_t_history 4 [.int t_history_count, .ref h_t_history_saved]] ++ (grp g h_t_history_saved ga_h_t_history_saved fa_h_t_history_saved sa_h_t_history_saved na_h_t_history_saved o_t_history_saved C_t_history_saved)) rfl 1 2 rfl rfl yq_X2_hasVertex rfl m_235 m_236 m_237 m_18 m_238 ⟨Nat.le_of_ble_eq_true rfl, Nat.le_of_ble_eq_true rfl⟩ rfl rfl hl.1 (Nat.le_of_ble_eq_true rfl) dX8_addEdge_5 ⟨Nat.le_refl 0, Nat.le_refl 0⟩ rfl (fun H locs hP hD hS => ?_)
  refine lv_if_eq (tgt := 27) hx hb dX8_addEdge_8 (by decide) (fun c_8 => ?_) (fun c_8 => ?_)
  · have hM := if_t hM c_8
    refine lv_iconst (v := (nI 4294967295)) hx hb dX8_addEdge_27 (by decide) ?_
    obtain rfl := Option.some.inj hM
    exact hfin 28 _ _ _ dX8_addEdge_28 hP hD hS
  · have hM := if_f hM c_8
    refine lv_aload_n hx hb dX8_addEdge_11 rfl (lv_at hl 0 rfl) ?_
    refine w_get cx hP 0 8 0 rfl rfl (by decide) m_203 rfl rfl dX8_addEdge_12 ?_
    refine lv_iload_n hx hb dX8_addEdge_15 rfl (lv_at hl 2 rfl) ?_
    obtain ⟨q_16, hc_16, hM⟩ := bd_some hM
    refine w_callV cx hP hD hS hA (c_X2_hasVertex g l h_t_graph h_t_graph_firsts h_t_graph_seconds h_t_graph_signs p2 t_graph_vertices t_graph_edges hc_16) [1] rfl (by decide) rfl ([ob h_t 8 [.ref h_t_graph, .ref h_t_draft, .ref h_t_history, .ref h_t_text, .ref h_t_grouping, .ref h_t_counter, .ref h_t_search, .ref h_t_edgePolynomial, .ref h_t_vertexPolynomial], ob h_t_graph 2 [.int t_graph_vertices, .int t_graph_edges, .ref h_t_graph_firsts, .ref h_t_graph_seconds, .ref h_t_graph_signs], aI g h_t_graph_firsts 9 a_t_graph_firsts, aI g h_t_graph_seconds 9 a_t_graph_seconds, aI g h_t_graph_signs 9 a_t_graph_signs, ob h_t_history 4 [.int t_history_count, .ref h_t_history_saved]] ++ (grp g h_t_history_saved ga_h_t_history_saved fa_h_t_history_saved sa_h_t_history_saved na_h_t_history_saved o_t_history_saved C_t_history_saved)) rfl 1 2 rfl rfl yq_X2_hasVertex rfl m_235 m_236 m_237 m_18 m_238 ⟨Nat.le_of_ble_eq_true rfl, Nat.le_of_ble_eq_true rfl⟩ rfl rfl hl.1 (Nat.le_of_ble_eq_true rfl) dX8_addEdge_16 ⟨Nat.le_refl 0, Nat.le_refl 0⟩ rfl (fun H locs hP hD hS => ?_)
    refine lv_if_eq (tgt := 27) hx hb dX8_addEdge_19 (by decide) (fun c_19 => ?_) (fun c_19 => ?_)
    · have hM := if_t hM c_19
      refine lv_iconst (v := (nI 4294967295)) hx hb dX8_addEdge_27 (by decide) ?_
      obtain rfl := Option.some.inj hM
      exact hfin 28 _ _ _ dX8_addEdge_28 hP hD hS
    · have hM := if_f hM c_19
      refine lv_iload_n hx hb dX8_addEdge_22 rfl (lv_at hl 1 rfl) ?_
      refine lv_iload_n hx hb dX8_addEdge_23 rfl (lv_at hl 2 rfl) ?_
      refine lv_icmp_ne (tgt := 29) hx hb dX8_addEdge_24 (by decide) (fun c_24 => ?_) (fun c_24 => ?_)
      · have hM := if_f hM c_24
        refine lv_iload_n hx hb dX8_addEdge_29 rfl (lv_at hl 3 rfl) ?_
        refine lv_iconst (v := (nI 1)) hx hb dX8_addEdge_30 (by decide) ?_
        refine lv_icmp_eq (tgt := 41) hx hb dX8_addEdge_31 (by decide) (fun c_31 => ?_) (fun c_31 => ?_)
        · have hM := if_t hM c_31
          refine lv_aload_n hx hb dX8_addEdge_41 rfl (lv_at hl 0 rfl) ?_
          refine w_get cx hP 0 8 0 rfl rfl (by decide) m_203 rfl rfl dX8_addEdge_42 ?_
          obtain ⟨q_45, hc_45, hM⟩ := bd_some hM
          refine w_callV cx hP hD hS hA (c_X2_isFull g l h_t_graph h_t_graph_firsts h_t_graph_seconds h_t_graph_signs t_graph_vertices t_graph_edges hc_45) [1] rfl (by decide) rfl ([ob h_t 8 [.ref h_t_graph, .ref h_t_draft, .ref h_t_history, .ref h_t_text, .ref h_t_grouping, .ref h_t_counter, .ref h_t_search, .ref h_t_edgePolynomial, .ref h_t_vertexPolynomial], ob h_t_graph 2 [.int t_graph_vertices, .int t_graph_edges, .ref h_t_graph_firsts, .ref h_t_graph_seconds, .ref h_t_graph_signs], aI g h_t_graph_firsts 9 a_t_graph_firsts, aI g h_t_graph_seconds 9 a_t_graph_seconds, aI g h_t_graph_signs 9 a_t_graph_signs, ob h_t_history 4 [.int t_history_count, .ref h_t_history_saved]] ++ (grp g h_t_history_saved ga_h_t_history_saved fa_h_t_history_saved sa_h_t_history_saved na_h_t_history_saved o_t_history_saved C_t_history_saved)) rfl 1 2 rfl rfl yq_X2_isFull rfl m_239 m_240 m_241 m_18 m_242 ⟨Nat.le_of_ble_eq_true rfl, Nat.le_of_ble_eq_true rfl⟩ rfl rfl hl.1 (Nat.le_of_ble_eq_true rfl) dX8_addEdge_45 ⟨Nat.le_refl 0, Nat.le_refl 0⟩ rfl (fun H locs hP hD hS => ?_)
          refine lv_if_eq (tgt := 54) hx hb dX8_addEdge_48 (by decide) (fun c_48 => ?_) (fun c_48 => ?_)
          · have hM := if_t hM c_48
            refine lv_aload_n hx hb dX8_addEdge_54 rfl (lv_at hl 0 rfl) ?_
            refine w_get cx hP 0 8 2 rfl rfl (by decide) m_205 rfl rfl dX8_addEdge_55 ?_
            refine lv_aload_n hx hb dX8_addEdge_58 rfl (lv_at hl 0 rfl) ?_
            refine w_get cx hP 0 8 0 rfl rfl (by decide) m_203 rfl rfl dX8_addEdge_59 ?_
            obtain ⟨q_62, hc_62, hM⟩ := bd_some hM
            refine w_callV cx hP hD hS hA (c_X4_save g l h_t_history h_t_history_saved h_t_graph h_t_graph_firsts h_t_graph_seconds h_t_graph_signs ga_h_t_history_saved fa_h_t_history_saved sa_h_t_history_saved na_h_t_history_saved t_history_count t_graph_vertices t_graph_edges a_t_graph_firsts a_t_graph_seconds a_t_graph_signs o_t_history_saved C_t_history_saved hc_62) ([5, 1, 2, 3, 4] ++ blk 6 33) (blk_C rfl grp_len rfl) (blk_nd (by decide) (by decide)) (blk_f rfl grp_f) ([ob h_t 8 [.ref h_t_graph, .ref h_t_draft, .ref h_t_history, .ref h_t_text, .ref h_t_grouping, .ref h_t_counter, .ref h_t_search, .ref h_t_edgePolynomial, .ref h_t_vertexPolynomial], ob h_t_graph 2 [.int t_graph_vertices, .int t_graph_edges, .ref h_t_graph_firsts, .ref h_t_graph_seconds, .ref h_t_graph_signs], aI g h_t_graph_firsts 9 a_t_graph_firsts, aI g h_t_graph_seconds 9 a_t_graph_seconds, aI g h_t_graph_signs 9 a_t_graph_signs, ob h_t_history 4 [.int q_62.1, .ref h_t_history_saved]] ++ (grp g h_t_history_saved ga_h_t_history_saved fa_h_t_history_saved sa_h_t_history_saved na_h_t_history_saved q_62.2.1 q_62.2.2)) (blk_S rfl grp_len grp_len rfl (by decide) rfl) 5 4 rfl rfl yq_X4_save rfl m_243 m_244 m_245 m_19 m_246 ⟨Nat.le_of_ble_eq_true rfl, Nat.le_of_ble_eq_true rfl⟩ rfl rfl hl.1 (Nat.le_of_ble_eq_true rfl) dX8_addEdge_62 ⟨Nat.le_refl 0, Nat.le_refl 0⟩ rfl (fun H locs hP hD hS => ?_)
            refine lv_aload_n hx hb dX8_addEdge_65 rfl (lv_at hl 0 rfl) ?_
            refine w_get cx hP 0 8 0 rfl rfl (by decide) m_203 rfl rfl dX8_addEdge_66 ?_
            refine lv_iload_n hx hb dX8_addEdge_69 rfl (lv_at hl 1 rfl) ?_
            refine lv_iload_n hx hb dX8_addEdge_70 rfl (lv_at hl 2 rfl) ?_
            refine lv_iload_n hx hb dX8_addEdge_71 rfl (lv_at hl 3 rfl) ?_
            obtain ⟨q_72, hc_72, hM⟩ := bd_some hM
            refine w_callV cx hP hD hS hA (c_X2_append g l h_t_graph h_t_graph_firsts h_t_graph_seconds h_t_graph_signs p1 p2 p3 t_graph_vertices t_graph_edges a_t_graph_firsts a_t_graph_seconds a_t_graph_signs hc_72) [1, 2, 3, 4] rfl (by decide) rfl ([ob h_t 8 [.ref h_t_graph, .ref h_t_draft, .ref h_t_history, .ref h_t_text, .ref h_t_grouping, .ref h_t_counter, .ref h_t_search, .ref h_t_edgePolynomial, .ref h_t_vertexPolynomial], ob h_t_graph 2 [.int t_graph_vertices, .int q_72.1, .ref h_t_graph_firsts, .ref h_t_graph_seconds, .ref h_t_graph_signs], aI g h_t_graph_firsts 9 q_72.2.1, aI g h_t_graph_seconds 9 q_72.2.2.1, aI g h_t_graph_signs 9 q_72.2.2.2, ob h_t_history 4 [.int q_62.1, .ref h_t_history_saved]] ++ (grp g h_t_history_saved ga_h_t_history_saved fa_h_t_history_saved sa_h_t_history_saved na_h_t_history_saved q_62.2.1 q_62.2.2)) rfl 1 2 rfl rfl yq_X2_append rfl m_255 m_256 m_257 m_18 m_258 ⟨Nat.le_of_ble_eq_true rfl, Nat.le_of_ble_eq_true rfl⟩ rfl rfl hl.1 (Nat.le_of_ble_eq_true rfl) dX8_addEdge_72 ⟨Nat.le_refl 0, Nat.le_refl 0⟩ rfl (fun H locs hP hD hS => ?_)
            refine lv_aload_n hx hb dX8_addEdge_75 rfl (lv_at hl 0 rfl) ?_
            refine w_get cx hP 0 8 0 rfl rfl (by decide) m_203 rfl rfl dX8_addEdge_76 ?_
            refine w_getN cx hP 1 2 1 rfl rfl (by decide) n_49 rfl rfl dX8_addEdge_79 ?_
            refine lv_iconst (v := (nI 1)) hx hb dX8_addEdge_82 (by decide) ?_
            refine lv_isub hx hb dX8_addEdge_83 ?_
            obtain rfl := Option.some.inj hM
            exact hfin 84 _ _ _ dX8_addEdge_84 hP hD hS
          · have hM := if_f hM c_48
            refine lv_bipush (v := (nI 4294967293)) hx hb dX8_addEdge_51 (by decide) ?_
            obtain rfl := Option.some.inj hM
            exact hfin 53 _ _ _ dX8_addEdge_53 hP hD hS
        · have hM := if_f hM c_31
          refine lv_iload_n hx hb dX8_addEdge_34 rfl (lv_at hl 3 rfl) ?_
          refine lv_iconst (v := (nI 4294967295)) hx hb dX8_addEdge_35 (by decide) ?_
          refine lv_icmp_eq (tgt := 41) hx hb dX8_addEdge_36 (by decide) (fun c_36 => ?_) (fun c_36 => ?_)
          · have hM := if_t hM c_36
            refine lv_aload_n hx hb dX8_addEdge_41 rfl (lv_at hl 0 rfl) ?_
            refine w_get cx hP 0 8 0 rfl rfl (by decide) m_203 rfl rfl dX8_addEdge_42 ?_
            obtain ⟨q_45, hc_45, hM⟩ := bd_some hM
            refine w_callV cx hP hD hS hA (c_X2_isFull g l h_t_graph h_t_graph_firsts h_t_graph_seconds h_t_graph_signs t_graph_vertices t_graph_edges hc_45) [1] rfl (by decide) rfl ([ob h_t 8 [.ref h_t_graph, .ref h_t_draft, .ref h_t_history, .ref h_t_text, .ref h_t_grouping, .ref h_t_counter, .ref h_t_search, .ref h_t_edgePolynomial, .ref h_t_vertexPolynomial], ob h_t_graph 2 [.int t_graph_vertices, .int t_graph_edges, .ref h_t_graph_firsts, .ref h_t_graph_seconds, .ref h_t_graph_signs], aI g h_t_graph_firsts 9 a_t_graph_firsts, aI g h_t_graph_seconds 9 a_t_graph_seconds, aI g h_t_graph_signs 9 a_t_graph_signs, ob h_t_history 4 [.int t_history_count, .ref h_t_history_saved]] ++ (grp g h_t_history_saved ga_h_t_history_saved fa_h_t_history_saved sa_h_t_history_saved na_h_t_history_saved o_t_history_saved C_t_history_saved)) rfl 1 2 rfl rfl yq_X2_isFull rfl m_239 m_240 m_241 m_18 m_242 ⟨Nat.le_of_ble_eq_true rfl, Nat.le_of_ble_eq_true rfl⟩ rfl rfl hl.1 (Nat.le_of_ble_eq_true rfl) dX8_addEdge_45 ⟨Nat.le_refl 0, Nat.le_refl 0⟩ rfl (fun H locs hP hD hS => ?_)
            refine lv_if_eq (tgt := 54) hx hb dX8_addEdge_48 (by decide) (fun c_48 => ?_) (fun c_48 => ?_)
            · have hM := if_t hM c_48
              refine lv_aload_n hx hb dX8_addEdge_54 rfl (lv_at hl 0 rfl) ?_
              refine w_get cx hP 0 8 2 rfl rfl (by decide) m_205 rfl rfl dX8_addEdge_55 ?_
              refine lv_aload_n hx hb dX8_addEdge_58 rfl (lv_at hl 0 rfl) ?_
              refine w_get cx hP 0 8 0 rfl rfl (by decide) m_203 rfl rfl dX8_addEdge_59 ?_
              obtain ⟨q_62, hc_62, hM⟩ := bd_some hM
              refine w_callV cx hP hD hS hA (c_X4_save g l h_t_history h_t_history_saved h_t_graph h_t_graph_firsts h_t_graph_seconds h_t_graph_signs ga_h_t_history_saved fa_h_t_history_saved sa_h_t_history_saved na_h_t_history_saved t_history_count t_graph_vertices t_graph_edges a_t_graph_firsts a_t_graph_seconds a_t_graph_signs o_t_history_saved C_t_history_saved hc_62) ([5, 1, 2, 3, 4] ++ blk 6 33) (blk_C rfl grp_len rfl) (blk_nd (by decide) (by decide)) (blk_f rfl grp_f) ([ob h_t 8 [.ref h_t_graph, .ref h_t_draft, .ref h_t_history, .ref h_t_text, .ref h_t_grouping, .ref h_t_counter, .ref h_t_search, .ref h_t_edgePolynomial, .ref h_t_vertexPolynomial], ob h_t_graph 2 [.int t_graph_vertices, .int t_graph_edges, .ref h_t_graph_firsts, .ref h_t_graph_seconds, .ref h_t_graph_signs], aI g h_t_graph_firsts 9 a_t_graph_firsts, aI g h_t_graph_seconds 9 a_t_graph_seconds, aI g h_t_graph_signs 9 a_t_graph_signs, ob h_t_history 4 [.int q_62.1, .ref h_t_history_saved]] ++ (grp g h_t_history_saved ga_h_t_history_saved fa_h_t_history_saved sa_h_t_history_saved na_h_t_history_saved q_62.2.1 q_62.2.2)) (blk_S rfl grp_len grp_len rfl (by decide) rfl) 5 4 rfl rfl yq_X4_save rfl m_243 m_244 m_245 m_19 m_246 ⟨Nat.le_of_ble_eq_true rfl, Nat.le_of_ble_eq_true rfl⟩ rfl rfl hl.1 (Nat.le_of_ble_eq_true rfl) dX8_addEdge_62 ⟨Nat.le_refl 0, Nat.le_refl 0⟩ rfl (fun H locs hP hD hS => ?_)
              refine lv_aload_n hx hb dX8_addEdge_65 rfl (lv_at hl 0 rfl) ?_
              refine w_get cx hP 0 8 0 rfl rfl (by decide) m_203 rfl rfl dX8_addEdge_66 ?_
              refine lv_iload_n hx hb dX8_addEdge_69 rfl (lv_at hl 1 rfl) ?_
              refine lv_iload_n hx hb dX8_addEdge_70 rfl (lv_at hl 2 rfl) ?_
              refine lv_iload_n hx hb dX8_addEdge_71 rfl (lv_at hl 3 rfl) ?_
              obtain ⟨q_72, hc_72, hM⟩ := bd_some hM
              refine w_callV cx hP hD hS hA (c_X2_append g l h_t_graph h_t_graph_firsts h_t_graph_seconds h_t_graph_signs p1 p2 p3 t_graph_vertices t_graph_edges a_t_graph_firsts a_t_graph_seconds a_t_graph_signs hc_72) [1, 2, 3, 4] rfl (by decide) rfl ([ob h_t 8 [.ref h_t_graph, .ref h_t_draft, .ref h_t_history, .ref h_t_text, .ref h_t_grouping, .ref h_t_counter, .ref h_t_search, .ref h_t_edgePolynomial, .ref h_t_vertexPolynomial], ob h_t_graph 2 [.int t_graph_vertices, .int q_72.1, .ref h_t_graph_firsts, .ref h_t_graph_seconds, .ref h_t_graph_signs], aI g h_t_graph_firsts 9 q_72.2.1, aI g h_t_graph_seconds 9 q_72.2.2.1, aI g h_t_graph_signs 9 q_72.2.2.2, ob h_t_history 4 [.int q_62.1, .ref h_t_history_saved]] ++ (grp g h_t_history_saved ga_h_t_history_saved fa_h_t_history_saved sa_h_t_history_saved na_h_t_history_saved q_62.2.1 q_62.2.2)) rfl 1 2 rfl rfl yq_X2_append rfl m_255 m_256 m_257 m_18 m_258 ⟨Nat.le_of_ble_eq_true rfl, Nat.le_of_ble_eq_true rfl⟩ rfl rfl hl.1 (Nat.le_of_ble_eq_true rfl) dX8_addEdge_72 ⟨Nat.le_refl 0, Nat.le_refl 0⟩ rfl (fun H locs hP hD hS => ?_)
              refine lv_aload_n hx hb dX8_addEdge_75 rfl (lv_at hl 0 rfl) ?_
              refine w_get cx hP 0 8 0 rfl rfl (by decide) m_203 rfl rfl dX8_addEdge_76 ?_
              refine w_getN cx hP 1 2 1 rfl rfl (by decide) n_49 rfl rfl dX8_addEdge_79 ?_
              refine lv_iconst (v := (nI 1)) hx hb dX8_addEdge_82 (by decide) ?_
              refine lv_isub hx hb dX8_addEdge_83 ?_
              obtain rfl := Option.some.inj hM
              exact hfin 84 _ _ _ dX8_addEdge_84 hP hD hS
            · have hM := if_f hM c_48
              refine lv_bipush (v := (nI 4294967293)) hx hb dX8_addEdge_51 (by decide) ?_
              obtain rfl := Option.some.inj hM
              exact hfin 53 _ _ _ dX8_addEdge_53 hP hD hS
          · have hM := if_f hM c_36
            refine lv_iconst (v := (nI 4294967295)) hx hb dX8_addEdge_39 (by decide) ?_
            obtain rfl := Option.some.inj hM
            exact hfin 40 _ _ _ dX8_addEdge_40 hP hD hS
      · have hM := if_t hM c_24
        refine lv_iconst (v := (nI 4294967295)) hx hb dX8_addEdge_27 (by decide) ?_
        obtain rfl := Option.some.inj hM
        exact hfin 28 _ _ _ dX8_addEdge_28 hP hD hS
noncomputable def f_X8_removeEdge (p1 : Int32) (t_graph_vertices : Int32) (t_graph_edges : Int32) (a_t_graph_firsts : Nat → Int32) (a_t_graph_seconds : Nat → Int32) (a_t_graph_signs : Nat → Int32) (t_history_count : Int32) (o_t_history_saved : List Nat) (C_t_history_saved : Nat → GC) : Option (Int32 × Int32 × (Nat → Int32) × (Nat → Int32) × (Nat → Int32) × Int32 × List Nat × (Nat → GC)) :=
  bd (f_X2_hasEdge p1 t_graph_vertices t_graph_edges) (fun (q_5 : Int32) => if q_5 = 0 then some ((nI 4294967295), t_graph_edges, a_t_graph_firsts, a_t_graph_seconds, a_t_graph_signs, t_history_count, o_t_history_saved, C_t_history_saved) else bd (f_X4_save t_history_count t_graph_vertices t_graph_edges a_t_graph_firsts a_t_graph_seconds a_t_graph_signs o_t_history_saved C_t_history_saved) (fun (q_21 : Int32 × List Nat × (Nat → GC)) => bd (f_X2_delete p1 t_graph_vertices t_graph_edges a_t_graph_firsts a_t_graph_seconds a_t_graph_signs) (fun (q_29 : Int32 × (Nat → Int32) × (Nat → Int32) × (Nat → Int32)) => some (q_29.1, q_29.1, q_29.2.1, q_29.2.2.1, q_29.2.2.2, q_21.1, q_21.2.1, q_21.2.2))))
theorem yq_X8_removeEdge : yq yX8_removeEdge 1 := by unfold yq; decide +kernel
set_option maxHeartbeats 4000000 in
set_option maxRecDepth 100000 in
theorem c_X8_removeEdge (g : GG) (l : Launch) (h_t : Nat) (h_t_graph : Nat) (h_t_draft : Nat) (h_t_history : Nat) (h_t_text : Nat) (h_t_grouping : Nat) (h_t_counter : Nat) (h_t_search : Nat) (h_t_edgePolynomial : Nat) (h_t_vertexPolynomial : Nat) (h_t_graph_firsts : Nat) (h_t_graph_seconds : Nat) (h_t_graph_signs : Nat) (h_t_history_saved : Nat) (ga_h_t_history_saved : Nat → Nat) (fa_h_t_history_saved : Nat → Nat) (sa_h_t_history_saved : Nat → Nat) (na_h_t_history_saved : Nat → Nat) (p1 : Int32) (t_graph_vertices : Int32) (t_graph_edges : Int32) (a_t_graph_firsts : Nat → Int32) (a_t_graph_seconds : Nat → Int32) (a_t_graph_signs : Nat → Int32) (t_history_count : Int32) (o_t_history_saved : List Nat) (C_t_history_saved : Nat → GC) {R : Int32 × Int32 × (Nat → Int32) × (Nat → Int32) × (Nat → Int32) × Int32 × List Nat × (Nat → GC)} (hM : f_X8_removeEdge p1 t_graph_vertices t_graph_edges a_t_graph_firsts a_t_graph_seconds a_t_graph_signs t_history_count o_t_history_saved C_t_history_saved = some R) : CT g l yX8_removeEdge cX8_removeEdge 2 (some .int) 2 43 [.ref h_t, .int p1] ([ob h_t 8 [.ref h_t_graph, .ref h_t_draft, .ref h_t_history, .ref h_t_text, .ref h_t_grouping, .ref h_t_counter, .ref h_t_search, .ref h_t_edgePolynomial, .ref h_t_vertexPolynomial], ob h_t_graph 2 [.int t_graph_vertices, .int t_graph_edges, .ref h_t_graph_firsts, .ref h_t_graph_seconds, .ref h_t_graph_signs], aI g h_t_graph_firsts 9 a_t_graph_firsts, aI g h_t_graph_seconds 9 a_t_graph_seconds, aI g h_t_graph_signs 9 a_t_graph_signs, ob h_t_history 4 [.int t_history_count, .ref h_t_history_saved]] ++ (grp g h_t_history_saved ga_h_t_history_saved fa_h_t_history_saved sa_h_t_history_saved na_h_t_history_saved o_t_history_saved C_t_history_saved)) ([ob h_t 8 [.ref h_t_graph, .ref h_t_draft, .ref h_t_history, .ref h_t_text, .ref h_t_grouping, .ref h_t_counter, .ref h_t_search, .ref h_t_edgePolynomial, .ref h_t_vertexPolynomial], ob h_t_graph 2 [.int t_graph_vertices, .int R.2.1, .ref h_t_graph_firsts, .ref h_t_graph_seconds, .ref h_t_graph_signs], aI g h_t_graph_firsts 9 R.2.2.1, aI g h_t_graph_seconds 9 R.2.2.2.1, aI g h_t_graph_signs 9 R.2.2.2.2.1, ob h_t_history 4 [.int R.2.2.2.2.2.1, .ref h_t_history_saved]] ++ (grp g h_t_history_saved ga_h_t_history_saved fa_h_t_history_saved sa_h_t_history_saved na_h_t_history_saved R.2.2.2.2.2.2.1 R.2.2.2.2.2.2.2)) (some (.int R.1)) := by
  refine ct_i (by decide +kernel) (Nat.le_of_ble_eq_true rfl) ?_
  intro p e s m args below meth c Q A ls cx hP hD hA hl hfin
  obtain ⟨hx, hb, hml, hown, hts, hK⟩ := id cx
  have hl : lv_has ls 2 [(0, .ref h_t), (1, .int p1)] := hl
  have hS : va_S A s.heap s.heap [] := va_S.rf
  refine lv_aload_n hx hb dX8_removeEdge_0 rfl (lv_at hl 0 rfl) ?_
  refine w_get cx hP 0 8 0 rfl rfl (by decide) m_203 rfl rfl dX8_removeEdge_1 ?_
  refine lv_iload_n hx hb dX8_removeEdge_4 rfl (lv_at hl 1 rfl) ?_
  obtain ⟨q_5, hc_5, hM⟩ := bd_some hM
  refine w_callV cx hP hD hS hA (c_X2_hasEdge g l h_t_graph h_t_graph_firsts h_t_graph_seconds h_t_graph_signs p1 t_graph_vertices t_graph_edges hc_5) [1] rfl (by decide) rfl ([ob h_t 8 [.ref h_t_graph, .ref h_t_draft, .ref h_t_history, .ref h_t_text, .ref h_t_grouping, .ref h_t_counter, .ref h_t_search, .ref h_t_edgePolynomial, .ref h_t_vertexPolynomial], ob h_t_graph 2 [.int t_graph_vertices, .int t_graph_edges, .ref h_t_graph_firsts, .ref h_t_graph_seconds, .ref h_t_graph_signs], aI g h_t_graph_firsts 9 a_t_graph_firsts, aI g h_t_graph_seconds 9 a_t_graph_seconds, aI g h_t_graph_signs 9 a_t_graph_signs, ob h_t_history 4 [.int t_history_count, .ref h_t_history_saved]] ++ (grp g h_t_history_saved ga_h_t_history_saved fa_h_t_history_saved sa_h_t_history_saved na_h_t_history_saved o_t_history_saved C_t_history_saved)) rfl 1 2 rfl rfl yq_X2_hasEdge rfl m_264 m_265 m_266 m_18 m_267 ⟨Nat.le_of_ble_eq_true rfl, Nat.le_of_ble_eq_true rfl⟩ rfl rfl hl.1 (Nat.le_of_ble_eq_true rfl) dX8_removeEdge_5 ⟨Nat.le_refl 0, Nat.le_refl 0⟩ rfl (fun H locs hP hD hS => ?_)
  refine lv_if_ne (tgt := 13) hx hb dX8_removeEdge_8 (by decide) (fun c_8 => ?_) (fun c_8 => ?_)
  · have hM := if_f hM c_8
    refine lv_aload_n hx hb dX8_removeEdge_13 rfl (lv_at hl 0 rfl) ?_
    refine w_get cx hP 0 8 2 rfl rfl (by decide) m_205 rfl rfl dX8_removeEdge_14 ?_
    refine lv_aload_n hx hb dX8_removeEdge_17 rfl (lv_at hl 0 rfl) ?_
    refine w_get cx hP 0 8 0 rfl rfl (by decide) m_203 rfl rfl dX8_removeEdge_18 ?_
    obtain ⟨q_21, hc_21, hM⟩ := bd_some hM
    refine w_callV cx hP hD hS hA (c_X4_save g l h_t_history h_t_history_saved h_t_graph h_t_graph_firsts h_t_graph_seconds h_t_graph_signs ga_h_t_history_saved fa_h_t_history_saved sa_h_t_history_saved na_h_t_history_saved t_history_count t_graph_vertices t_graph_edges a_t_graph_firsts a_t_graph_seconds a_t_graph_signs o_t_history_saved C_t_history_saved hc_21) ([5, 1, 2, 3, 4] ++ blk 6 33) (blk_C rfl grp_len rfl) (blk_nd (by decide) (by decide)) (blk_f rfl grp_f) ([ob h_t 8 [.ref h_t_graph, .ref h_t_draft, .ref h_t_history, .ref h_t_text, .ref h_t_grouping, .ref h_t_counter, .ref h_t_search, .ref h_t_edgePolynomial, .ref h_t_vertexPolynomial], ob h_t_graph 2 [.int t_graph_vertices, .int t_graph_edges, .ref h_t_graph_firsts, .ref h_t_graph_seconds, .ref h_t_graph_signs], aI g h_t_graph_firsts 9 a_t_graph_firsts, aI g h_t_graph_seconds 9 a_t_graph_seconds, aI g h_t_graph_signs 9 a_t_graph_signs, ob h_t_history 4 [.int q_21.1, .ref h_t_history_saved]] ++ (grp g h_t_history_saved ga_h_t_history_saved fa_h_t_history_saved sa_h_t_history_saved na_h_t_history_saved q_21.2.1 q_21.2.2)) (blk_S rfl grp_len grp_len rfl (by decide) rfl) 5 4 rfl rfl yq_X4_save rfl m_243 m_244 m_245 m_19 m_246 ⟨Nat.le_of_ble_eq_true rfl, Nat.le_of_ble_eq_true rfl⟩ rfl rfl hl.1 (Nat.le_of_ble_eq_true rfl) dX8_removeEdge_21 ⟨Nat.le_refl 0, Nat.le_refl 0⟩ rfl (fun H locs hP hD hS => ?_)
    refine lv_aload_n hx hb dX8_removeEdge_24 rfl (lv_at hl 0 rfl) ?_
    refine w_get cx hP 0 8 0 rfl rfl (by decide) m_203 rfl rfl dX8_removeEdge_25 ?_
    refine lv_iload_n hx hb dX8_removeEdge_28 rfl (lv_at hl 1 rfl) ?_
    obtain ⟨q_29, hc_29, hM⟩ := bd_some hM
    refine w_callV cx hP hD hS hA (c_X2_delete g l h_t_graph h_t_graph_firsts h_t_graph_seconds h_t_graph_signs p1 t_graph_vertices t_graph_edges a_t_graph_firsts a_t_graph_seconds a_t_graph_signs hc_29) [1, 2, 3, 4] rfl (by decide) rfl ([ob h_t 8 [.ref h_t_graph, .ref h_t_draft, .ref h_t_history, .ref h_t_text, .ref h_t_grouping, .ref h_t_counter, .ref h_t_search, .ref h_t_edgePolynomial, .ref h_t_vertexPolynomial], ob h_t_graph 2 [.int t_graph_vertices, .int q_29.1, .ref h_t_graph_firsts, .ref h_t_graph_seconds, .ref h_t_graph_signs], aI g h_t_graph_firsts 9 q_29.2.1, aI g h_t_graph_seconds 9 q_29.2.2.1, aI g h_t_graph_signs 9 q_29.2.2.2, ob h_t_history 4 [.int q_21.1, .ref h_t_history_saved]] ++ (grp g h_t_history_saved ga_h_t_history_saved fa_h_t_history_saved sa_h_t_history_saved na_h_t_history_saved q_21.2.1 q_21.2.2)) rfl 1 2 rfl rfl yq_X2_delete rfl m_268 m_269 m_270 m_18 m_271 ⟨Nat.le_of_ble_eq_true rfl, Nat.le_of_ble_eq_true rfl⟩ rfl rfl hl.1 (Nat.le_of_ble_eq_true rfl) dX8_removeEdge_29 ⟨Nat.le_refl 0, Nat.le_refl 0⟩ rfl (fun H locs hP hD hS => ?_)
    refine lv_aload_n hx hb dX8_removeEdge_32 rfl (lv_at hl 0 rfl) ?_
    refine w_get cx hP 0 8 0 rfl rfl (by decide) m_203 rfl rfl dX8_removeEdge_33 ?_
    refine w_getN cx hP 1 2 1 rfl rfl (by decide) n_49 rfl rfl dX8_removeEdge_36 ?_
    obtain rfl := Option.some.inj hM
    exact hfin 39 _ _ _ dX8_removeEdge_39 hP hD hS
  · have hM := if_t hM c_8
    refine lv_iconst (v := (nI 4294967295)) hx hb dX8_removeEdge_11 (by decide) ?_
    obtain rfl := Option.some.inj hM
    exact hfin 12 _ _ _ dX8_removeEdge_12 hP hD hS
noncomputable def f_X8_flipSign (p1 : Int32) (t_graph_vertices : Int32) (t_graph_edges : Int32) (a_t_graph_firsts : Nat → Int32) (a_t_graph_seconds : Nat → Int32) (a_t_graph_signs : Nat → Int32) (t_history_count : Int32) (o_t_history_saved : List Nat) (C_t_history_saved : Nat → GC) : Option (Int32 × (Nat → Int32) × Int32 × List Nat × (Nat → GC)) :=
  bd (f_X2_hasEdge p1 t_graph_vertices t_graph_edges) (fun (q_5 : Int32) => if q_5 = 0 then some ((nI 0), a_t_graph_signs, t_history_count, o_t_history_saved, C_t_history_saved) else bd (f_X4_save t_history_count t_graph_vertices t_graph_edges a_t_graph_firsts a_t_graph_seconds a_t_graph_signs o_t_history_saved C_t_history_saved) (fun (q_21 : Int32 × List Nat × (Nat → GC)) => gd (inb p1 9) (gd (inb p1 9) (gd (inb p1 9) (some ((upd a_t_graph_signs p1.toNatClampNeg (-(a_t_graph_signs p1.toNatClampNeg))) p1.toNatClampNeg, upd a_t_graph_signs p1.toNatClampNeg (-(a_t_graph_signs p1.toNatClampNeg)), q_21.1, q_21.2.1, q_21.2.2))))))
theorem yq_X8_flipSign : yq yX8_flipSign 1 := by unfold yq; decide +kernel
set_option maxHeartbeats 4000000 in
set_option maxRecDepth 100000 in
theorem c_X8_flipSign (g : GG) (l : Launch) (h_t : Nat) (h_t_graph : Nat) (h_t_draft : Nat) (h_t_history : Nat) (h_t_text : Nat) (h_t_grouping : Nat) (h_t_counter : Nat) (h_t_search : Nat) (h_t_edgePolynomial : Nat) (h_t_vertexPolynomial : Nat) (h_t_graph_firsts : Nat) (h_t_graph_seconds : Nat) (h_t_graph_signs : Nat) (h_t_history_saved : Nat) (ga_h_t_history_saved : Nat → Nat) (fa_h_t_history_saved : Nat → Nat) (sa_h_t_history_saved : Nat → Nat) (na_h_t_history_saved : Nat → Nat) (p1 : Int32) (t_graph_vertices : Int32) (t_graph_edges : Int32) (a_t_graph_firsts : Nat → Int32) (a_t_graph_seconds : Nat → Int32) (a_t_graph_signs : Nat → Int32) (t_history_count : Int32) (o_t_history_saved : List Nat) (C_t_history_saved : Nat → GC) {R : Int32 × (Nat → Int32) × Int32 × List Nat × (Nat → GC)} (hM : f_X8_flipSign p1 t_graph_vertices t_graph_edges a_t_graph_firsts a_t_graph_seconds a_t_graph_signs t_history_count o_t_history_saved C_t_history_saved = some R) : CT g l yX8_flipSign cX8_flipSign 2 (some .int) 2 43 [.ref h_t, .int p1] ([ob h_t 8 [.ref h_t_graph, .ref h_t_draft, .ref h_t_history, .ref h_t_text, .ref h_t_grouping, .ref h_t_counter, .ref h_t_search, .ref h_t_edgePolynomial, .ref h_t_vertexPolynomial], ob h_t_graph 2 [.int t_graph_vertices, .int t_graph_edges, .ref h_t_graph_firsts, .ref h_t_graph_seconds, .ref h_t_graph_signs], aI g h_t_graph_firsts 9 a_t_graph_firsts, aI g h_t_graph_seconds 9 a_t_graph_seconds, aI g h_t_graph_signs 9 a_t_graph_signs, ob h_t_history 4 [.int t_history_count, .ref h_t_history_saved]] ++ (grp g h_t_history_saved ga_h_t_history_saved fa_h_t_history_saved sa_h_t_history_saved na_h_t_history_saved o_t_history_saved C_t_history_saved)) ([ob h_t 8 [.ref h_t_graph, .ref h_t_draft, .ref h_t_history, .ref h_t_text, .ref h_t_grouping, .ref h_t_counter, .ref h_t_search, .ref h_t_edgePolynomial, .ref h_t_vertexPolynomial], ob h_t_graph 2 [.int t_graph_vertices, .int t_graph_edges, .ref h_t_graph_firsts, .ref h_t_graph_seconds, .ref h_t_graph_signs], aI g h_t_graph_firsts 9 a_t_graph_firsts, aI g h_t_graph_seconds 9 a_t_graph_seconds, aI g h_t_graph_signs 9 R.2.1, ob h_t_history 4 [.int R.2.2.1, .ref h_t_history_saved]] ++ (grp g h_t_history_saved ga_h_t_history_saved fa_h_t_history_saved sa_h_t_history_saved na_h_t_history_saved R.2.2.2.1 R.2.2.2.2)) (some (.int R.1)) := by
  refine ct_i (by decide +kernel) (Nat.le_of_ble_eq_true rfl) ?_
  intro p e s m args below meth c Q A ls cx hP hD hA hl hfin
  obtain ⟨hx, hb, hml, hown, hts, hK⟩ := id cx
  have hl : lv_has ls 2 [(0, .ref h_t), (1, .int p1)] := hl
  have hS : va_S A s.heap s.heap [] := va_S.rf
  refine lv_aload_n hx hb dX8_flipSign_0 rfl (lv_at hl 0 rfl) ?_
  refine w_get cx hP 0 8 0 rfl rfl (by decide) m_203 rfl rfl dX8_flipSign_1 ?_
  refine lv_iload_n hx hb dX8_flipSign_4 rfl (lv_at hl 1 rfl) ?_
  obtain ⟨q_5, hc_5, hM⟩ := bd_some hM
  refine w_callV cx hP hD hS hA (c_X2_hasEdge g l h_t_graph h_t_graph_firsts h_t_graph_seconds h_t_graph_signs p1 t_graph_vertices t_graph_edges hc_5) [1] rfl (by decide) rfl ([ob h_t 8 [.ref h_t_graph, .ref h_t_draft, .ref h_t_history, .ref h_t_text, .ref h_t_grouping, .ref h_t_counter, .ref h_t_search, .ref h_t_edgePolynomial, .ref h_t_vertexPolynomial], ob h_t_graph 2 [.int t_graph_vertices, .int t_graph_edges, .ref h_t_graph_firsts, .ref h_t_graph_seconds, .ref h_t_graph_signs], aI g h_t_graph_firsts 9 a_t_graph_firsts, aI g h_t_graph_seconds 9 a_t_graph_seconds, aI g h_t_graph_signs 9 a_t_graph_signs, ob h_t_history 4 [.int t_history_count, .ref h_t_history_saved]] ++ (grp g h_t_history_saved ga_h_t_history_saved fa_h_t_history_saved sa_h_t_history_saved na_h_t_history_saved o_t_history_saved C_t_history_saved)) rfl 1 2 rfl rfl yq_X2_hasEdge rfl m_264 m_265 m_266 m_18 m_267 ⟨Nat.le_of_ble_eq_true rfl, Nat.le_of_ble_eq_true rfl⟩ rfl rfl hl.1 (Nat.le_of_ble_eq_true rfl) dX8_flipSign_5 ⟨Nat.le_refl 0, Nat.le_refl 0⟩ rfl (fun H locs hP hD hS => ?_)
  refine lv_if_ne (tgt := 13) hx hb dX8_flipSign_8 (by decide) (fun c_8 => ?_) (fun c_8 => ?_)
  · have hM := if_f hM c_8
    refine lv_aload_n hx hb dX8_flipSign_13 rfl (lv_at hl 0 rfl) ?_
    refine w_get cx hP 0 8 2 rfl rfl (by decide) m_205 rfl rfl dX8_flipSign_14 ?_
    refine lv_aload_n hx hb dX8_flipSign_17 rfl (lv_at hl 0 rfl) ?_
    refine w_get cx hP 0 8 0 rfl rfl (by decide) m_203 rfl rfl dX8_flipSign_18 ?_
    obtain ⟨q_21, hc_21, hM⟩ := bd_some hM
    refine w_callV cx hP hD hS hA (c_X4_save g l h_t_history h_t_history_saved h_t_graph h_t_graph_firsts h_t_graph_seconds h_t_graph_signs ga_h_t_history_saved fa_h_t_history_saved sa_h_t_history_saved na_h_t_history_saved t_history_count t_graph_vertices t_graph_edges a_t_graph_firsts a_t_graph_seconds a_t_graph_signs o_t_history_saved C_t_history_saved hc_21) ([5, 1, 2, 3, 4] ++ blk 6 33) (blk_C rfl grp_len rfl) (blk_nd (by decide) (by decide)) (blk_f rfl grp_f) ([ob h_t 8 [.ref h_t_graph, .ref h_t_draft, .ref h_t_history, .ref h_t_text, .ref h_t_grouping, .ref h_t_counter, .ref h_t_search, .ref h_t_edgePolynomial, .ref h_t_vertexPolynomial], ob h_t_graph 2 [.int t_graph_vertices, .int t_graph_edges, .ref h_t_graph_firsts, .ref h_t_graph_seconds, .ref h_t_graph_signs], aI g h_t_graph_firsts 9 a_t_graph_firsts, aI g h_t_graph_seconds 9 a_t_graph_seconds, aI g h_t_graph_signs 9 a_t_graph_signs, ob h_t_history 4 [.int q_21.1, .ref h_t_history_saved]] ++ (grp g h_t_history_saved ga_h_t_history_saved fa_h_t_history_saved sa_h_t_history_saved na_h_t_history_saved q_21.2.1 q_21.2.2)) (blk_S rfl grp_len grp_len rfl (by decide) rfl) 5 4 rfl rfl yq_X4_save rfl m_243 m_244 m_245 m_19 m_246 ⟨Nat.le_of_ble_eq_true rfl, Nat.le_of_ble_eq_true rfl⟩ rfl rfl hl.1 (Nat.le_of_ble_eq_true rfl) dX8_flipSign_21 ⟨Nat.le_refl 0, Nat.le_refl 0⟩ rfl (fun H locs hP hD hS => ?_)
    refine lv_aload_n hx hb dX8_flipSign_24 rfl (lv_at hl 0 rfl) ?_
    refine w_get cx hP 0 8 0 rfl rfl (by decide) m_203 rfl rfl dX8_flipSign_25 ?_
    refine w_getN cx hP 1 2 4 rfl rfl (by decide) n_58 rfl rfl dX8_flipSign_28 ?_
    refine lv_iload_n hx hb dX8_flipSign_31 rfl (lv_at hl 1 rfl) ?_
    refine lv_aload_n hx hb dX8_flipSign_32 rfl (lv_at hl 0 rfl) ?_
    refine w_get cx hP 0 8 0 rfl rfl (by decide) m_203 rfl rfl dX8_flipSign_33 ?_
    refine w_getN cx hP 1 2 4 rfl rfl (by decide) n_58 rfl rfl dX8_flipSign_36 ?_
    refine lv_iload_n hx hb dX8_flipSign_39 rfl (lv_at hl 1 rfl) ?_
    obtain ⟨g_40, hM⟩ := gd_some hM
    refine w_iald cx hP 4 rfl g_40 dX8_flipSign_40 ?_
    refine lv_ineg hx hb dX8_flipSign_41 ?_
    obtain ⟨g_42, hM⟩ := gd_some hM
    refine w_iast cx hP hD hS 4 rfl g_42 dX8_flipSign_42 ([ob h_t 8 [.ref h_t_graph, .ref h_t_draft, .ref h_t_history, .ref h_t_text, .ref h_t_grouping, .ref h_t_counter, .ref h_t_search, .ref h_t_edgePolynomial, .ref h_t_vertexPolynomial], ob h_t_graph 2 [.int t_graph_vertices, .int t_graph_edges, .ref h_t_graph_firsts, .ref h_t_graph_seconds, .ref h_t_graph_signs], aI g h_t_graph_firsts 9 a_t_graph_firsts, aI g h_t_graph_seconds 9 a_t_graph_seconds, aI g h_t_graph_signs 9 (upd a_t_graph_signs p1.toNatClampNeg (-(a_t_graph_signs p1.toNatClampNeg))), ob h_t_history 4 [.int q_21.1, .ref h_t_history_saved]] ++ (grp g h_t_history_saved ga_h_t_history_saved fa_h_t_history_saved sa_h_t_history_saved na_h_t_history_saved q_21.2.1 q_21.2.2)) rfl (fun H locs hP hD hS => ?_)
    refine lv_aload_n hx hb dX8_flipSign_43 rfl (lv_at hl 0 rfl) ?_
    refine w_get cx hP 0 8 0 rfl rfl (by decide) m_203 rfl rfl dX8_flipSign_44 ?_
    refine w_getN cx hP 1 2 4 rfl rfl (by decide) n_58 rfl rfl dX8_flipSign_47 ?_
    refine lv_iload_n hx hb dX8_flipSign_50 rfl (lv_at hl 1 rfl) ?_
    obtain ⟨g_51, hM⟩ := gd_some hM
    refine w_iald cx hP 4 rfl g_51 dX8_flipSign_51 ?_
    obtain rfl := Option.some.inj hM
    exact hfin 52 _ _ _ dX8_flipSign_52 hP hD hS
  · have hM := if_t hM c_8
    refine lv_iconst (v := (nI 0)) hx hb dX8_flipSign_11 (by decide) ?_
    obtain rfl := Option.some.inj hM
    exact hfin 12 _ _ _ dX8_flipSign_12 hP hD hS
noncomputable def f_X8_loadGraph (t_graph_vertices : Int32) (t_graph_edges : Int32) (a_t_graph_firsts : Nat → Int32) (a_t_graph_seconds : Nat → Int32) (a_t_graph_signs : Nat → Int32) (t_draft_vertices : Int32) (t_draft_edges : Int32) (a_t_draft_firsts : Nat → Int32) (a_t_draft_seconds : Nat → Int32) (a_t_draft_signs : Nat → Int32) (t_history_count : Int32) (t_text_length : Int32) (t_text_stage : Int32) (t_text_first : Int32) (t_text_second : Int32) (t_text_sign : Int32) (a_t_text_characters : Nat → Int32) (o_t_history_saved : List Nat) (C_t_history_saved : Nat → GC) : Option (Int32 × Int32 × Int32 × (Nat → Int32) × (Nat → Int32) × (Nat → Int32) × Int32 × Int32 × (Nat → Int32) × (Nat → Int32) × (Nat → Int32) × Int32 × Int32 × Int32 × Int32 × Int32 × Int32 × List Nat × (Nat → GC)) :=
  bd (f_X2_makeEmpty t_graph_vertices t_draft_vertices t_draft_edges) (fun (q_11 : Int32 × Int32) => bd (f_X1_readInto t_text_length t_text_stage t_text_first t_text_second t_text_sign a_t_text_characters q_11.1 q_11.2 a_t_draft_firsts a_t_draft_seconds a_t_draft_signs) (fun (q_22 : Int32 × Int32 × Int32 × Int32 × Int32 × Int32 × (Nat → Int32) × (Nat → Int32) × (Nat → Int32)) => if q_22.1 = (nI 4294967295) then bd (f_X4_save t_history_count t_graph_vertices t_graph_edges a_t_graph_firsts a_t_graph_seconds a_t_graph_signs o_t_history_saved C_t_history_saved) (fun (q_44 : Int32 × List Nat × (Nat → GC)) => bd (f_X2_copyFrom t_graph_vertices t_graph_edges a_t_graph_firsts a_t_graph_seconds a_t_graph_signs q_11.1 q_22.2.2.2.2.2.1 q_22.2.2.2.2.2.2.1 q_22.2.2.2.2.2.2.2.1 q_22.2.2.2.2.2.2.2.2) (fun (q_55 : Int32 × Int32 × (Nat → Int32) × (Nat → Int32) × (Nat → Int32)) => some (q_55.2.1, q_55.1, q_55.2.1, q_55.2.2.1, q_55.2.2.2.1, q_55.2.2.2.2, q_11.1, q_22.2.2.2.2.2.1, q_22.2.2.2.2.2.2.1, q_22.2.2.2.2.2.2.2.1, q_22.2.2.2.2.2.2.2.2, q_44.1, (nI 0), q_22.2.1, q_22.2.2.1, q_22.2.2.2.1, q_22.2.2.2.2.1, q_44.2.1, q_44.2.2))) else nm ((nI 4294967286) - q_22.1) (fun (y_34 : Int32) => some (y_34, t_graph_vertices, t_graph_edges, a_t_graph_firsts, a_t_graph_seconds, a_t_graph_signs, q_11.1, q_22.2.2.2.2.2.1, q_22.2.2.2.2.2.2.1, q_22.2.2.2.2.2.2.2.1, q_22.2.2.2.2.2.2.2.2, t_history_count, t_text_length, q_22.2.1, q_22.2.2.1, q_22.2.2.2.1, q_22.2.2.2.2.1, o_t_history_saved, C_t_history_saved))))
theorem yq_X8_loadGraph : yq yX8_loadGraph 0 := by unfold yq; decide +kernel
set_option maxHeartbeats 4000000 in
set_option maxRecDepth 100000 in
theorem c_X8_loadGraph (g : GG) (l : Launch) (h_t : Nat) (h_t_graph : Nat) (h_t_draft : Nat) (h_t_history : Nat) (h_t_text : Nat) (h_t_grouping : Nat) (h_t_counter : Nat) (h_t_search : Nat) (h_t_edgePolynomial : Nat) (h_t_vertexPolynomial : Nat) (h_t_graph_firsts : Nat) (h_t_graph_seconds : Nat) (h_t_graph_signs : Nat) (h_t_draft_firsts : Nat) (h_t_draft_seconds : Nat) (h_t_draft_signs : Nat) (h_t_history_saved : Nat) (h_t_text_characters : Nat) (ga_h_t_history_saved : Nat → Nat) (fa_h_t_history_saved : Nat → Nat) (sa_h_t_history_saved : Nat → Nat) (na_h_t_history_saved : Nat → Nat) (t_graph_vertices : Int32) (t_graph_edges : Int32) (a_t_graph_firsts : Nat → Int32) (a_t_graph_seconds : Nat → Int32) (a_t_graph_signs : Nat → Int32) (t_draft_vertices : Int32) (t_draft_edges : Int32) (a_t_draft_firsts : Nat → Int32) (a_t_draft_seconds : Nat → Int32) (a_t_draft_signs : Nat → Int32) (t_history_count : Int32) (t_text_length : Int32) (t_text_stage : Int32) (t_text_first : Int32) (t_text_second : Int32) (t_text_sign : Int32) (a_t_text_characters : Nat → Int32) (o_t_history_saved : List Nat) (C_t_history_saved : Nat → GC) {R : Int32 × Int32 × Int32 × (Nat → Int32) × (Nat → Int32) × (Nat → Int32) × Int32 × Int32 × (Nat → Int32) × (Nat → Int32) × (Nat → Int32) × Int32 × Int32 × Int32 × Int32 × Int32 × Int32 × List Nat × (Nat → GC)} (hM : f_X8_loadGraph t_graph_vertices t_graph_edges a_t_graph_firsts a_t_graph_seconds a_t_graph_signs t_draft_vertices t_draft_edges a_t_draft_firsts a_t_draft_seconds a_t_draft_signs t_history_count t_text_length t_text_stage t_text_first t_text_second t_text_sign a_t_text_characters o_t_history_saved C_t_history_saved = some R) : CT g l yX8_loadGraph cX8_loadGraph 2 (some .int) 5 110 [.ref h_t] ([ob h_t 8 [.ref h_t_graph, .ref h_t_draft, .ref h_t_history, .ref h_t_text, .ref h_t_grouping, .ref h_t_counter, .ref h_t_search, .ref h_t_edgePolynomial, .ref h_t_vertexPolynomial], ob h_t_graph 2 [.int t_graph_vertices, .int t_graph_edges, .ref h_t_graph_firsts, .ref h_t_graph_seconds, .ref h_t_graph_signs], aI g h_t_graph_firsts 9 a_t_graph_firsts, aI g h_t_graph_seconds 9 a_t_graph_seconds, aI g h_t_graph_signs 9 a_t_graph_signs, ob h_t_draft 2 [.int t_draft_vertices, .int t_draft_edges, .ref h_t_draft_firsts, .ref h_t_draft_seconds, .ref h_t_draft_signs], aI g h_t_draft_firsts 9 a_t_draft_firsts, aI g h_t_draft_seconds 9 a_t_draft_seconds, aI g h_t_draft_signs 9 a_t_draft_signs, ob h_t_history 4 [.int t_history_count, .ref h_t_history_saved], ob h_t_text 1 [.int t_text_length, .ref h_t_text_characters, .int t_text_stage, .int t_text_first, .int t_text_second, .int t_text_sign], aI g h_t_text_characters 60 a_t_text_characters] ++ (grp g h_t_history_saved ga_h_t_history_saved fa_h_t_history_saved sa_h_t_history_saved na_h_t_history_saved o_t_history_saved C_t_history_saved)) ([ob h_t 8 [.ref h_t_graph, .ref h_t_draft, .ref h_t_history, .ref h_t_text, .ref h_t_grouping, .ref h_t_counter, .ref h_t_search, .ref h_t_edgePolynomial, .ref h_t_vertexPolynomial], ob h_t_graph 2 [.int R.2.1, .int R.2.2.1, .ref h_t_graph_firsts, .ref h_t_graph_seconds, .ref h_t_graph_signs], aI g h_t_graph_firsts 9 R.2.2.2.1, aI g h_t_graph_seconds 9 R.2.2.2.2.1, aI g h_t_graph_signs 9 R.2.2.2.2.2.1, ob h_t_draft 2 [.int R.2.2.2.2.2.2.1, .int R.2.2.2.2.2.2.2.1, .ref h_t_draft_firsts, .ref h_t_draft_seconds, .ref h_t_draft_signs], aI g h_t_draft_firsts 9 R.2.2.2.2.2.2.2.2.1, aI g h_t_draft_seconds 9 R.2.2.2.2.2.2.2.2.2.1, aI g h_t_draft_signs 9 R.2.2.2.2.2.2.2.2.2.2.1, ob h_t_history 4 [.int R.2.2.2.2.2.2.2.2.2.2.2.1, .ref h_t_history_saved], ob h_t_text 1 [.int R.2.2.2.2.2.2.2.2.2.2.2.2.1, .ref h_t_text_characters, .int R.2.2.2.2.2.2.2.2.2.2.2.2.2.1, .int R.2.2.2.2.2.2.2.2.2.2.2.2.2.2.1, .int R.2.2.2.2.2.2.2.2.2.2.2.2.2.2.2.1, .int R.2.2.2.2.2.2.2.2.2.2.2.2.2.2.2.2.1], aI g h_t_text_characters 60 a_t_text_characters] ++ (grp g h_t_history_saved ga_h_t_history_saved fa_h_t_history_saved sa_h_t_history_saved na_h_t_history_saved R.2.2.2.2.2.2.2.2.2.2.2.2.2.2.2.2.2.1 R.2.2.2.2.2.2.2.2.2.2.2.2.2.2.2.2.2.2)) (some (.int R.1)) := by
  refine ct_i (by decide +kernel) (Nat.le_of_ble_eq_true rfl) ?_
  intro p e s m args below meth c Q A ls cx hP hD hA hl hfin
  obtain ⟨hx, hb, hml, hown, hts, hK⟩ := id cx
  have hl : lv_has ls 2 [(0, .ref h_t)] := hl
  have hS : va_S A s.heap s.heap [] := va_S.rf
  refine lv_aload_n hx hb dX8_loadGraph_0 rfl (lv_at hl 0 rfl) ?_
  refine w_get cx hP 0 8 1 rfl rfl (by decide) m_204 rfl rfl dX8_loadGraph_1 ?_
  refine lv_aload_n hx hb dX8_loadGraph_4 rfl (lv_at hl 0 rfl) ?_
  refine w_get cx hP 0 8 0 rfl rfl (by decide) m_203 rfl rfl dX8_loadGraph_5 ?_
  refine w_getN cx hP 1 2 0 rfl rfl (by decide) n_45 rfl rfl dX8_loadGraph_8 ?_
  obtain ⟨q_11, hc_11, hM⟩ := bd_some hM
  refine w_callV cx hP hD hS hA (c_X2_makeEmpty g l h_t_draft h_t_draft_firsts h_t_draft_seconds h_t_draft_signs t_graph_vertices t_draft_vertices t_draft_edges hc_11) [5] rfl (by decide) rfl ([ob h_t 8 [.ref h_t_graph, .ref h_t_draft, .ref h_t_history, .ref h_t_text, .ref h_t_grouping, .ref h_t_counter, .ref h_t_search, .ref h_t_edgePolynomial, .ref h_t_vertexPolynomial], ob h_t_graph 2 [.int t_graph_vertices, .int t_graph_edges, .ref h_t_graph_firsts, .ref h_t_graph_seconds, .ref h_t_graph_signs], aI g h_t_graph_firsts 9 a_t_graph_firsts, aI g h_t_graph_seconds 9 a_t_graph_seconds, aI g h_t_graph_signs 9 a_t_graph_signs, ob h_t_draft 2 [.int q_11.1, .int q_11.2, .ref h_t_draft_firsts, .ref h_t_draft_seconds, .ref h_t_draft_signs], aI g h_t_draft_firsts 9 a_t_draft_firsts, aI g h_t_draft_seconds 9 a_t_draft_seconds, aI g h_t_draft_signs 9 a_t_draft_signs, ob h_t_history 4 [.int t_history_count, .ref h_t_history_saved], ob h_t_text 1 [.int t_text_length, .ref h_t_text_characters, .int t_text_stage, .int t_text_first, .int t_text_second, .int t_text_sign], aI g h_t_text_characters 60 a_t_text_characters] ++ (grp g h_t_history_saved ga_h_t_history_saved fa_h_t_history_saved sa_h_t_history_saved na_h_t_history_saved o_t_history_saved C_t_history_saved)) rfl 5 2 rfl rfl yq_X2_makeEmpty rfl m_280 m_281 m_282 m_18 m_283 ⟨Nat.le_of_ble_eq_true rfl, Nat.le_of_ble_eq_true rfl⟩ rfl rfl hl.1 (Nat.le_of_ble_eq_true rfl) dX8_loadGraph_11 ⟨Nat.le_refl 0, Nat.le_refl 0⟩ rfl (fun H locs hP hD hS => ?_)
  refine lv_aload_n hx hb dX8_loadGraph_14 rfl (lv_at hl 0 rfl) ?_
  refine w_get cx hP 0 8 3 rfl rfl (by decide) m_206 rfl rfl dX8_loadGraph_15 ?_
  refine lv_aload_n hx hb dX8_loadGraph_18 rfl (lv_at hl 0 rfl) ?_
  refine w_get cx hP 0 8 1 rfl rfl (by decide) m_204 rfl rfl dX8_loadGraph_19 ?_
  obtain ⟨q_22, hc_22, hM⟩ := bd_some hM
  refine w_callV cx hP hD hS hA (c_X1_readInto g l h_t_text h_t_text_characters h_t_draft h_t_draft_firsts h_t_draft_seconds h_t_draft_signs t_text_length t_text_stage t_text_first t_text_second t_text_sign a_t_text_characters q_11.1 q_11.2 a_t_draft_firsts a_t_draft_seconds a_t_draft_signs hc_22) [10, 11, 5, 6, 7, 8] rfl (by decide) rfl ([ob h_t 8 [.ref h_t_graph, .ref h_t_draft, .ref h_t_history, .ref h_t_text, .ref h_t_grouping, .ref h_t_counter, .ref h_t_search, .ref h_t_edgePolynomial, .ref h_t_vertexPolynomial], ob h_t_graph 2 [.int t_graph_vertices, .int t_graph_edges, .ref h_t_graph_firsts, .ref h_t_graph_seconds, .ref h_t_graph_signs], aI g h_t_graph_firsts 9 a_t_graph_firsts, aI g h_t_graph_seconds 9 a_t_graph_seconds, aI g h_t_graph_signs 9 a_t_graph_signs, ob h_t_draft 2 [.int q_11.1, .int q_22.2.2.2.2.2.1, .ref h_t_draft_firsts, .ref h_t_draft_seconds, .ref h_t_draft_signs], aI g h_t_draft_firsts 9 q_22.2.2.2.2.2.2.1, aI g h_t_draft_seconds 9 q_22.2.2.2.2.2.2.2.1, aI g h_t_draft_signs 9 q_22.2.2.2.2.2.2.2.2, ob h_t_history 4 [.int t_history_count, .ref h_t_history_saved], ob h_t_text 1 [.int t_text_length, .ref h_t_text_characters, .int q_22.2.1, .int q_22.2.2.1, .int q_22.2.2.2.1, .int q_22.2.2.2.2.1], aI g h_t_text_characters 60 a_t_text_characters] ++ (grp g h_t_history_saved ga_h_t_history_saved fa_h_t_history_saved sa_h_t_history_saved na_h_t_history_saved o_t_history_saved C_t_history_saved)) rfl 10 1 rfl rfl yq_X1_readInto rfl m_284 m_285 m_286 m_20 m_287 ⟨Nat.le_of_ble_eq_true rfl, Nat.le_of_ble_eq_true rfl⟩ rfl rfl hl.1 (Nat.le_of_ble_eq_true rfl) dX8_loadGraph_22 ⟨Nat.le_refl 0, Nat.le_refl 0⟩ rfl (fun H locs hP hD hS => ?_)
  refine lv_istore_n (lv' := [(1, .int q_22.1), (0, .ref h_t)]) hx hb dX8_loadGraph_25 rfl hl (by decide) rfl (fun ls hl => ?_)
  refine lv_iload_n hx hb dX8_loadGraph_26 rfl (lv_at hl 0 rfl) ?_
  refine lv_iconst (v := (nI 4294967295)) hx hb dX8_loadGraph_27 (by decide) ?_
  refine lv_icmp_eq (tgt := 36) hx hb dX8_loadGraph_28 (by decide) (fun c_28 => ?_) (fun c_28 => ?_)
  · have hM := if_t hM c_28
    refine lv_aload_n hx hb dX8_loadGraph_36 rfl (lv_at hl 1 rfl) ?_
    refine w_get cx hP 0 8 2 rfl rfl (by decide) m_205 rfl rfl dX8_loadGraph_37 ?_
    refine lv_aload_n hx hb dX8_loadGraph_40 rfl (lv_at hl 1 rfl) ?_
    refine w_get cx hP 0 8 0 rfl rfl (by decide) m_203 rfl rfl dX8_loadGraph_41 ?_
    obtain ⟨q_44, hc_44, hM⟩ := bd_some hM
    refine w_callV cx hP hD hS hA (c_X4_save g l h_t_history h_t_history_saved h_t_graph h_t_graph_firsts h_t_graph_seconds h_t_graph_signs ga_h_t_history_saved fa_h_t_history_saved sa_h_t_history_saved na_h_t_history_saved t_history_count t_graph_vertices t_graph_edges a_t_graph_firsts a_t_graph_seconds a_t_graph_signs o_t_history_saved C_t_history_saved hc_44) ([9, 1, 2, 3, 4] ++ blk 12 33) (blk_C rfl grp_len rfl) (blk_nd (by decide) (by decide)) (blk_f rfl grp_f) ([ob h_t 8 [.ref h_t_graph, .ref h_t_draft, .ref h_t_history, .ref h_t_text, .ref h_t_grouping, .ref h_t_counter, .ref h_t_search, .ref h_t_edgePolynomial, .ref h_t_vertexPolynomial], ob h_t_graph 2 [.int t_graph_vertices, .int t_graph_edges, .ref h_t_graph_firsts, .ref h_t_graph_seconds, .ref h_t_graph_signs], aI g h_t_graph_firsts 9 a_t_graph_firsts, aI g h_t_graph_seconds 9 a_t_graph_seconds, aI g h_t_graph_signs 9 a_t_graph_signs, ob h_t_draft 2 [.int q_11.1, .int q_22.2.2.2.2.2.1, .ref h_t_draft_firsts, .ref h_t_draft_seconds, .ref h_t_draft_signs], aI g h_t_draft_firsts 9 q_22.2.2.2.2.2.2.1, aI g h_t_draft_seconds 9 q_22.2.2.2.2.2.2.2.1, aI g h_t_draft_signs 9 q_22.2.2.2.2.2.2.2.2, ob h_t_history 4 [.int q_44.1, .ref h_t_history_saved], ob h_t_text 1 [.int t_text_length, .ref h_t_text_characters, .int q_22.2.1, .int q_22.2.2.1, .int q_22.2.2.2.1, .int q_22.2.2.2.2.1], aI g h_t_text_characters 60 a_t_text_characters] ++ (grp g h_t_history_saved ga_h_t_history_saved fa_h_t_history_saved sa_h_t_history_saved na_h_t_history_saved q_44.2.1 q_44.2.2)) (blk_S rfl grp_len grp_len rfl (by decide) rfl) 9 4 rfl rfl yq_X4_save rfl m_243 m_244 m_245 m_19 m_246 ⟨Nat.le_of_ble_eq_true rfl, Nat.le_of_ble_eq_true rfl⟩ rfl rfl hl.1 (Nat.le_of_ble_eq_true rfl) dX8_loadGraph_44 ⟨Nat.le_refl 0, Nat.le_refl 0⟩ rfl (fun H locs hP hD hS => ?_)
    refine lv_aload_n hx hb dX8_loadGraph_47 rfl (lv_at hl 1 rfl) ?_
    refine w_get cx hP 0 8 0 rfl rfl (by decide) m_203 rfl rfl dX8_loadGraph_48 ?_
    refine lv_aload_n hx hb dX8_loadGraph_51 rfl (lv_at hl 1 rfl) ?_
    refine w_get cx hP 0 8 1 rfl rfl (by decide) m_204 rfl rfl dX8_loadGraph_52 ?_
    obtain ⟨q_55, hc_55, hM⟩ := bd_some hM
    refine w_callV cx hP hD hS hA (c_X2_copyFrom g l h_t_graph h_t_graph_firsts h_t_graph_seconds h_t_graph_signs h_t_draft h_t_draft_firsts h_t_draft_seconds h_t_draft_signs t_graph_vertices t_graph_edges a_t_graph_firsts a_t_graph_seconds a_t_graph_signs q_11.1 q_22.2.2.2.2.2.1 q_22.2.2.2.2.2.2.1 q_22.2.2.2.2.2.2.2.1 q_22.2.2.2.2.2.2.2.2 hc_55) [1, 2, 3, 4, 5, 6, 7, 8] rfl (by decide) rfl ([ob h_t 8 [.ref h_t_graph, .ref h_t_draft, .ref h_t_history, .ref h_t_text, .ref h_t_grouping, .ref h_t_counter, .ref h_t_search, .ref h_t_edgePolynomial, .ref h_t_vertexPolynomial], ob h_t_graph 2 [.int q_55.1, .int q_55.2.1, .ref h_t_graph_firsts, .ref h_t_graph_seconds, .ref h_t_graph_signs], aI g h_t_graph_firsts 9 q_55.2.2.1, aI g h_t_graph_seconds 9 q_55.2.2.2.1, aI g h_t_graph_signs 9 q_55.2.2.2.2, ob h_t_draft 2 [.int q_11.1, .int q_22.2.2.2.2.2.1, .ref h_t_draft_firsts, .ref h_t_draft_seconds, .ref h_t_draft_signs], aI g h_t_draft_firsts 9 q_22.2.2.2.2.2.2.1, aI g h_t_draft_seconds 9 q_22.2.2.2.2.2.2.2.1, aI g h_t_draft_signs 9 q_22.2.2.2.2.2.2.2.2, ob h_t_history 4 [.int q_44.1, .ref h_t_history_saved], ob h_t_text 1 [.int t_text_length, .ref h_t_text_characters, .int q_22.2.1, .int q_22.2.2.1, .int q_22.2.2.2.1, .int q_22.2.2.2.2.1], aI g h_t_text_characters 60 a_t_text_characters] ++ (grp g h_t_history_saved ga_h_t_history_saved fa_h_t_history_saved sa_h_t_history_saved na_h_t_history_saved q_44.2.1 q_44.2.2)) rfl 1 2 rfl rfl yq_X2_copyFrom rfl m_311 m_252 m_253 m_18 m_254 ⟨Nat.le_of_ble_eq_true rfl, Nat.le_of_ble_eq_true rfl⟩ rfl rfl hl.1 (Nat.le_of_ble_eq_true rfl) dX8_loadGraph_55 ⟨Nat.le_refl 0, Nat.le_refl 0⟩ rfl (fun H locs hP hD hS => ?_)
    refine lv_aload_n hx hb dX8_loadGraph_58 rfl (lv_at hl 1 rfl) ?_
    refine w_get cx hP 0 8 3 rfl rfl (by decide) m_206 rfl rfl dX8_loadGraph_59 ?_
    refine lv_iconst (v := (nI 0)) hx hb dX8_loadGraph_62 (by decide) ?_
    refine w_putN cx hP hD hS 10 1 0 rfl rfl (by decide) n_97 rfl rfl rfl (Nat.le_of_ble_eq_true rfl) dX8_loadGraph_63 ([ob h_t 8 [.ref h_t_graph, .ref h_t_draft, .ref h_t_history, .ref h_t_text, .ref h_t_grouping, .ref h_t_counter, .ref h_t_search, .ref h_t_edgePolynomial, .ref h_t_vertexPolynomial], ob h_t_graph 2 [.int q_55.1, .int q_55.2.1, .ref h_t_graph_firsts, .ref h_t_graph_seconds, .ref h_t_graph_signs], aI g h_t_graph_firsts 9 q_55.2.2.1, aI g h_t_graph_seconds 9 q_55.2.2.2.1, aI g h_t_graph_signs 9 q_55.2.2.2.2, ob h_t_draft 2 [.int q_11.1, .int q_22.2.2.2.2.2.1, .ref h_t_draft_firsts, .ref h_t_draft_seconds, .ref h_t_draft_signs], aI g h_t_draft_firsts 9 q_22.2.2.2.2.2.2.1, aI g h_t_draft_seconds 9 q_22.2.2.2.2.2.2.2.1, aI g h_t_draft_signs 9 q_22.2.2.2.2.2.2.2.2, ob h_t_history 4 [.int q_44.1, .ref h_t_history_saved], ob h_t_text 1 [.int (nI 0), .ref h_t_text_characters, .int q_22.2.1, .int q_22.2.2.1, .int q_22.2.2.2.1, .int q_22.2.2.2.2.1], aI g h_t_text_characters 60 a_t_text_characters] ++ (grp g h_t_history_saved ga_h_t_history_saved fa_h_t_history_saved sa_h_t_history_saved na_h_t_history_saved q_44.2.1 q_44.2.2)) rfl (fun H locs hP hD hS => ?_)
    refine lv_aload_n hx hb dX8_loadGraph_66 rfl (lv_at hl 1 rfl) ?_
    refine w_get cx hP 0 8 0 rfl rfl (by decide) m_203 rfl rfl dX8_loadGraph_67 ?_
    refine w_getN cx hP 1 2 1 rfl rfl (by decide) n_49 rfl rfl dX8_loadGraph_70 ?_
    obtain rfl := Option.some.inj hM
    exact hfin 73 _ _ _ dX8_loadGraph_73 hP hD hS
  · have hM := if_f hM c_28
    refine lv_bipush (v := (nI 4294967286)) hx hb dX8_loadGraph_31 (by decide) ?_
    refine lv_iload_n hx hb dX8_loadGraph_33 rfl (lv_at hl 0 rfl) ?_
    refine lv_isub hx hb dX8_loadGraph_34 ?_
    refine lv_topi (fun y_34 ey_34 => ?_)
    have hM := nm_some hM y_34 ey_34
    obtain rfl := Option.some.inj hM
    exact hfin 35 _ _ _ dX8_loadGraph_35 hP hD hS
noncomputable def f_X8_undo (t_graph_vertices : Int32) (t_graph_edges : Int32) (a_t_graph_firsts : Nat → Int32) (a_t_graph_seconds : Nat → Int32) (a_t_graph_signs : Nat → Int32) (t_history_count : Int32) (o_t_history_saved : List Nat) (C_t_history_saved : Nat → GC) : Option (Int32 × Int32 × Int32 × (Nat → Int32) × (Nat → Int32) × (Nat → Int32) × Int32) :=
  if t_history_count = 0 then some ((nI 4294967294), t_graph_vertices, t_graph_edges, a_t_graph_firsts, a_t_graph_seconds, a_t_graph_signs, t_history_count) else bd (f_X4_restore t_history_count t_graph_vertices t_graph_edges a_t_graph_firsts a_t_graph_seconds a_t_graph_signs o_t_history_saved C_t_history_saved) (fun (q_21 : Int32 × Int32 × Int32 × (Nat → Int32) × (Nat → Int32) × (Nat → Int32)) => some (q_21.1, q_21.2.1, q_21.2.2.1, q_21.2.2.2.1, q_21.2.2.2.2.1, q_21.2.2.2.2.2, q_21.1))
theorem yq_X8_undo : yq yX8_undo 0 := by unfold yq; decide +kernel
set_option maxHeartbeats 4000000 in
set_option maxRecDepth 100000 in
theorem c_X8_undo (g : GG) (l : Launch) (h_t : Nat) (h_t_graph : Nat) (h_t_draft : Nat) (h_t_history : Nat) (h_t_text : Nat) (h_t_grouping : Nat) (h_t_counter : Nat) (h_t_search : Nat) (h_t_edgePolynomial : Nat) (h_t_vertexPolynomial : Nat) (h_t_graph_firsts : Nat) (h_t_graph_seconds : Nat) (h_t_graph_signs : Nat) (h_t_history_saved : Nat) (ga_h_t_history_saved : Nat → Nat) (fa_h_t_history_saved : Nat → Nat) (sa_h_t_history_saved : Nat → Nat) (na_h_t_history_saved : Nat → Nat) (t_graph_vertices : Int32) (t_graph_edges : Int32) (a_t_graph_firsts : Nat → Int32) (a_t_graph_seconds : Nat → Int32) (a_t_graph_signs : Nat → Int32) (t_history_count : Int32) (o_t_history_saved : List Nat) (C_t_history_saved : Nat → GC) {R : Int32 × Int32 × Int32 × (Nat → Int32) × (Nat → Int32) × (Nat → Int32) × Int32} (hM : f_X8_undo t_graph_vertices t_graph_edges a_t_graph_firsts a_t_graph_seconds a_t_graph_signs t_history_count o_t_history_saved C_t_history_saved = some R) : CT g l yX8_undo cX8_undo 1 (some .int) 2 43 [.ref h_t] ([ob h_t 8 [.ref h_t_graph, .ref h_t_draft, .ref h_t_history, .ref h_t_text, .ref h_t_grouping, .ref h_t_counter, .ref h_t_search, .ref h_t_edgePolynomial, .ref h_t_vertexPolynomial], ob h_t_graph 2 [.int t_graph_vertices, .int t_graph_edges, .ref h_t_graph_firsts, .ref h_t_graph_seconds, .ref h_t_graph_signs], aI g h_t_graph_firsts 9 a_t_graph_firsts, aI g h_t_graph_seconds 9 a_t_graph_seconds, aI g h_t_graph_signs 9 a_t_graph_signs, ob h_t_history 4 [.int t_history_count, .ref h_t_history_saved]] ++ (grp g h_t_history_saved ga_h_t_history_saved fa_h_t_history_saved sa_h_t_history_saved na_h_t_history_saved o_t_history_saved C_t_history_saved)) ([ob h_t 8 [.ref h_t_graph, .ref h_t_draft, .ref h_t_history, .ref h_t_text, .ref h_t_grouping, .ref h_t_counter, .ref h_t_search, .ref h_t_edgePolynomial, .ref h_t_vertexPolynomial], ob h_t_graph 2 [.int R.2.1, .int R.2.2.1, .ref h_t_graph_firsts, .ref h_t_graph_seconds, .ref h_t_graph_signs], aI g h_t_graph_firsts 9 R.2.2.2.1, aI g h_t_graph_seconds 9 R.2.2.2.2.1, aI g h_t_graph_signs 9 R.2.2.2.2.2.1, ob h_t_history 4 [.int R.2.2.2.2.2.2, .ref h_t_history_saved]] ++ (grp g h_t_history_saved ga_h_t_history_saved fa_h_t_history_saved sa_h_t_history_saved na_h_t_history_saved o_t_history_saved C_t_history_saved)) (some (.int R.1)) := by
  refine ct_i (by decide +kernel) (Nat.le_of_ble_eq_true rfl) ?_
  intro p e s m args below meth c Q A ls cx hP hD hA hl hfin
  obtain ⟨hx, hb, hml, hown, hts, hK⟩ := id cx
  have hl : lv_has ls 1 [(0, .ref h_t)] := hl
  have hS : va_S A s.heap s.heap [] := va_S.rf
  refine lv_aload_n hx hb dX8_undo_0 rfl (lv_at hl 0 rfl) ?_
  refine w_get cx hP 0 8 2 rfl rfl (by decide) m_205 rfl rfl dX8_undo_1 ?_
  refine w_getN cx hP 5 4 0 rfl rfl (by decide) n_83 rfl rfl dX8_undo_4 ?_
  refine lv_if_ne (tgt := 13) hx hb dX8_undo_7 (by decide) (fun c_7 => ?_) (fun c_7 => ?_)
  · have hM := if_f hM c_7
    refine lv_aload_n hx hb dX8_undo_13 rfl (lv_at hl 0 rfl) ?_
    refine w_get cx hP 0 8 2 rfl rfl (by decide) m_205 rfl rfl dX8_undo_14 ?_
    refine lv_aload_n hx hb dX8_undo_17 rfl (lv_at hl 0 rfl) ?_
    refine w_get cx hP 0 8 0 rfl rfl (by decide) m_203 rfl rfl dX8_undo_18 ?_
    obtain ⟨q_21, hc_21, hM⟩ := bd_some hM
    refine w_callV cx hP hD hS hA (c_X4_restore g l h_t_history h_t_history_saved h_t_graph h_t_graph_firsts h_t_graph_seconds h_t_graph_signs ga_h_t_history_saved fa_h_t_history_saved sa_h_t_history_saved na_h_t_history_saved t_history_count t_graph_vertices t_graph_edges a_t_graph_firsts a_t_graph_seconds a_t_graph_signs o_t_history_saved C_t_history_saved hc_21) ([5, 1, 2, 3, 4] ++ blk 6 33) (blk_C rfl grp_len rfl) (blk_nd (by decide) (by decide)) (blk_f rfl grp_f) ([ob h_t 8 [.ref h_t_graph, .ref h_t_draft, .ref h_t_history, .ref h_t_text, .ref h_t_grouping, .ref h_t_counter, .ref h_t_search, .ref h_t_edgePolynomial, .ref h_t_vertexPolynomial], ob h_t_graph 2 [.int q_21.2.1, .int q_21.2.2.1, .ref h_t_graph_firsts, .ref h_t_graph_seconds, .ref h_t_graph_signs], aI g h_t_graph_firsts 9 q_21.2.2.2.1, aI g h_t_graph_seconds 9 q_21.2.2.2.2.1, aI g h_t_graph_signs 9 q_21.2.2.2.2.2, ob h_t_history 4 [.int q_21.1, .ref h_t_history_saved]] ++ (grp g h_t_history_saved ga_h_t_history_saved fa_h_t_history_saved sa_h_t_history_saved na_h_t_history_saved o_t_history_saved C_t_history_saved)) (blk_S rfl grp_len grp_len rfl (by decide) rfl) 5 4 rfl rfl yq_X4_restore rfl m_316 m_317 m_318 m_19 m_319 ⟨Nat.le_of_ble_eq_true rfl, Nat.le_of_ble_eq_true rfl⟩ rfl rfl hl.1 (Nat.le_of_ble_eq_true rfl) dX8_undo_21 ⟨Nat.le_refl 0, Nat.le_refl 0⟩ rfl (fun H locs hP hD hS => ?_)
    refine lv_aload_n hx hb dX8_undo_24 rfl (lv_at hl 0 rfl) ?_
    refine w_get cx hP 0 8 2 rfl rfl (by decide) m_205 rfl rfl dX8_undo_25 ?_
    refine w_getN cx hP 5 4 0 rfl rfl (by decide) n_83 rfl rfl dX8_undo_28 ?_
    obtain rfl := Option.some.inj hM
    exact hfin 31 _ _ _ dX8_undo_31 hP hD hS
  · have hM := if_t hM c_7
    refine lv_bipush (v := (nI 4294967294)) hx hb dX8_undo_10 (by decide) ?_
    obtain rfl := Option.some.inj hM
    exact hfin 12 _ _ _ dX8_undo_12 hP hD hS
noncomputable def f_X8_primeEdge (p1 : Int32) (p2 : Int32) (p3 : Int32) (t_graph_vertices : Int32) (t_graph_edges : Int32) (a_t_graph_firsts : Nat → Int32) (a_t_graph_seconds : Nat → Int32) (a_t_graph_signs : Nat → Int32) (t_search_toSkip : Int32) (a_t_search_word : Nat → Int32) : Option (Int32 × Int32 × (Nat → Int32)) :=
  bd (f_X8_isPrimeLength p1) (fun (q_1 : Int32) => if q_1 = 0 then some ((nI 4294967295), t_search_toSkip, a_t_search_word) else if p2 < 0 then some ((nI 4294967295), t_search_toSkip, a_t_search_word) else if p3 < 0 then some ((nI 4294967295), t_search_toSkip, a_t_search_word) else if p3 < p1 then bd (f_X5_find p1 p2 t_search_toSkip a_t_search_word t_graph_vertices t_graph_edges a_t_graph_firsts a_t_graph_seconds a_t_graph_signs) (fun (q_32 : Int32 × Int32 × (Nat → Int32)) => if q_32.1 = 0 then some ((nI 4294967287), q_32.2.1, q_32.2.2) else gd (inb p3 5) (some (q_32.2.2 p3.toNatClampNeg, q_32.2.1, q_32.2.2))) else some ((nI 4294967295), t_search_toSkip, a_t_search_word))
theorem yq_X8_primeEdge : yq yX8_primeEdge 3 := by unfold yq; decide +kernel
set_option maxHeartbeats 4000000 in
set_option maxRecDepth 100000 in
theorem c_X8_primeEdge (g : GG) (l : Launch) (h_t : Nat) (h_t_graph : Nat) (h_t_draft : Nat) (h_t_history : Nat) (h_t_text : Nat) (h_t_grouping : Nat) (h_t_counter : Nat) (h_t_search : Nat) (h_t_edgePolynomial : Nat) (h_t_vertexPolynomial : Nat) (h_t_graph_firsts : Nat) (h_t_graph_seconds : Nat) (h_t_graph_signs : Nat) (h_t_search_word : Nat) (p1 : Int32) (p2 : Int32) (p3 : Int32) (t_graph_vertices : Int32) (t_graph_edges : Int32) (a_t_graph_firsts : Nat → Int32) (a_t_graph_seconds : Nat → Int32) (a_t_graph_signs : Nat → Int32) (t_search_toSkip : Int32) (a_t_search_word : Nat → Int32) {R : Int32 × Int32 × (Nat → Int32)} (hM : f_X8_primeEdge p1 p2 p3 t_graph_vertices t_graph_edges a_t_graph_firsts a_t_graph_seconds a_t_graph_signs t_search_toSkip a_t_search_word = some R) : CT g l yX8_primeEdge cX8_primeEdge 4 (some .int) 12 305 [.ref h_t, .int p1, .int p2, .int p3] [ob h_t 8 [.ref h_t_graph, .ref h_t_draft, .ref h_t_history, .ref h_t_text, .ref h_t_grouping, .ref h_t_counter, .ref h_t_search, .ref h_t_edgePolynomial, .ref h_t_vertexPolynomial], ob h_t_graph 2 [.int t_graph_vertices, .int t_graph_edges, .ref h_t_graph_firsts, .ref h_t_graph_seconds, .ref h_t_graph_signs], aI g h_t_graph_firsts 9 a_t_graph_firsts, aI g h_t_graph_seconds 9 a_t_graph_seconds, aI g h_t_graph_signs 9 a_t_graph_signs, ob h_t_search 5 [.ref h_t_search_word, .int t_search_toSkip], aI g h_t_search_word 5 a_t_search_word] [ob h_t 8 [.ref h_t_graph, .ref h_t_draft, .ref h_t_history, .ref h_t_text, .ref h_t_grouping, .ref h_t_counter, .ref h_t_search, .ref h_t_edgePolynomial, .ref h_t_vertexPolynomial], ob h_t_graph 2 [.int t_graph_vertices, .int t_graph_edges, .ref h_t_graph_firsts, .ref h_t_graph_seconds, .ref h_t_graph_signs], aI g h_t_graph_firsts 9 a_t_graph_firsts, aI g h_t_graph_seconds 9 a_t_graph_seconds, aI g h_t_graph_signs 9 a_t_graph_signs, ob h_t_search 5 [.ref h_t_search_word, .int R.2.1], aI g h_t_search_word 5 R.2.2] (some (.int R.1)) := by
  refine ct_i (by decide +kernel) (Nat.le_of_ble_eq_true rfl) ?_
  intro p e s m args below meth c Q A ls cx hP hD hA hl hfin
  obtain ⟨hx, hb, hml, hown, hts, hK⟩ := id cx
  have hl : lv_has ls 4 [(0, .ref h_t), (1, .int p1), (2, .int p2), (3, .int p3)] := hl
  have hS : va_S A s.heap s.heap [] := va_S.rf
  refine lv_iload_n hx hb dX8_primeEdge_0 rfl (lv_at hl 1 rfl) ?_
  obtain ⟨q_1, hc_1, hM⟩ := bd_some hM
  refine w_callS cx hP hD hS hA (c_X8_isPrimeLength g l p1 hc_1) [] rfl (by decide) rfl [ob h_t 8 [.ref h_t_graph, .ref h_t_draft, .ref h_t_history, .ref h_t_text, .ref h_t_grouping, .ref h_t_counter, .ref h_t_search, .ref h_t_edgePolynomial, .ref h_t_vertexPolynomial], ob h_t_graph 2 [.int t_graph_vertices, .int t_graph_edges, .ref h_t_graph_firsts, .ref h_t_graph_seconds, .ref h_t_graph_signs], aI g h_t_graph_firsts 9 a_t_graph_firsts, aI g h_t_graph_seconds 9 a_t_graph_seconds, aI g h_t_graph_signs 9 a_t_graph_signs, ob h_t_search 5 [.ref h_t_search_word, .int t_search_toSkip], aI g h_t_search_word 5 a_t_search_word] rfl yq_X8_isPrimeLength m_474 m_475 m_17 m_476 ⟨Nat.le_of_ble_eq_true rfl, Nat.le_of_ble_eq_true rfl⟩ rfl rfl hl.1 (Nat.le_of_ble_eq_true rfl) dX8_primeEdge_1 ⟨Nat.le_refl 0, Nat.le_refl 0⟩ rfl (fun H locs hP hD hS => ?_)
  refine lv_if_eq (tgt := 20) hx hb dX8_primeEdge_4 (by decide) (fun c_4 => ?_) (fun c_4 => ?_)
  · have hM := if_t hM c_4
    refine lv_iconst (v := (nI 4294967295)) hx hb dX8_primeEdge_20 (by decide) ?_
    obtain rfl := Option.some.inj hM
    exact hfin 21 _ _ _ dX8_primeEdge_21 hP hD hS
  · have hM := if_f hM c_4
    refine lv_iload_n hx hb dX8_primeEdge_7 rfl (lv_at hl 2 rfl) ?_
    refine lv_if_lt (tgt := 20) hx hb dX8_primeEdge_8 (by decide) (fun c_8 => ?_) (fun c_8 => ?_)
    · have hM := if_t hM c_8
      refine lv_iconst (v := (nI 4294967295)) hx hb dX8_primeEdge_20 (by decide) ?_
      obtain rfl := Option.some.inj hM
      exact hfin 21 _ _ _ dX8_primeEdge_21 hP hD hS
    · have hM := if_f hM c_8
      refine lv_iload_n hx hb dX8_primeEdge_11 rfl (lv_at hl 3 rfl) ?_
      refine lv_if_lt (tgt := 20) hx hb dX8_primeEdge_12 (by decide) (fun c_12 => ?_) (fun c_12 => ?_)
      · have hM := if_t hM c_12
        refine lv_iconst (v := (nI 4294967295)) hx hb dX8_primeEdge_20 (by decide) ?_
        obtain rfl := Option.some.inj hM
        exact hfin 21 _ _ _ dX8_primeEdge_21 hP hD hS
      · have hM := if_f hM c_12
        refine lv_iload_n hx hb dX8_primeEdge_15 rfl (lv_at hl 3 rfl) ?_
        refine lv_iload_n hx hb dX8_primeEdge_16 rfl (lv_at hl 1 rfl) ?_
        refine lv_icmp_lt (tgt := 22) hx hb dX8_primeEdge_17 (by decide) (fun c_17 => ?_) (fun c_17 => ?_)
        · have hM := if_t hM c_17
          refine lv_aload_n hx hb dX8_primeEdge_22 rfl (lv_at hl 0 rfl) ?_
          refine w_get cx hP 0 8 6 rfl rfl (by decide) m_209 rfl rfl dX8_primeEdge_23 ?_
          refine lv_aload_n hx hb dX8_primeEdge_26 rfl (lv_at hl 0 rfl) ?_
          refine w_get cx hP 0 8 0 rfl rfl (by decide) m_203 rfl rfl dX8_primeEdge_27 ?_
          refine lv_iload_n hx hb dX8_primeEdge_30 rfl (lv_at hl 1 rfl) ?_
          refine lv_iload_n hx hb dX8_primeEdge_31 rfl (lv_at hl 2 rfl) ?_
          obtain ⟨q_32, hc_32, hM⟩ := bd_some hM
          refine w_callV cx hP hD hS hA (c_X5_find g l h_t_search h_t_search_word h_t_graph h_t_graph_firsts h_t_graph_seconds h_t_graph_signs p1 p2 t_search_toSkip a_t_search_word t_graph_vertices t_graph_edges a_t_graph_firsts a_t_graph_seconds a_t_graph_signs hc_32) [5, 6, 1, 2, 3, 4] rfl (by decide) rfl [ob h_t 8 [.ref h_t_graph, .ref h_t_draft, .ref h_t_history, .ref h_t_text, .ref h_t_grouping, .ref h_t_counter, .ref h_t_search, .ref h_t_edgePolynomial, .ref h_t_vertexPolynomial], ob h_t_graph 2 [.int t_graph_vertices, .int t_graph_edges, .ref h_t_graph_firsts, .ref h_t_graph_seconds, .ref h_t_graph_signs], aI g h_t_graph_firsts 9 a_t_graph_firsts, aI g h_t_graph_seconds 9 a_t_graph_seconds, aI g h_t_graph_signs 9 a_t_graph_signs, ob h_t_search 5 [.ref h_t_search_word, .int q_32.2.1], aI g h_t_search_word 5 q_32.2.2] rfl 5 5 rfl rfl yq_X5_find rfl m_477 m_478 m_479 m_23 m_480 ⟨Nat.le_of_ble_eq_true rfl, Nat.le_of_ble_eq_true rfl⟩ rfl rfl hl.1 (Nat.le_of_ble_eq_true rfl) dX8_primeEdge_32 ⟨Nat.le_refl 0, Nat.le_refl 0⟩ rfl (fun H locs hP hD hS => ?_)
          refine lv_if_ne (tgt := 41) hx hb dX8_primeEdge_35 (by decide) (fun c_35 => ?_) (fun c_35 => ?_)
          · have hM := if_f hM c_35
            refine lv_aload_n hx hb dX8_primeEdge_41 rfl (lv_at hl 0 rfl) ?_
            refine w_get cx hP 0 8 6 rfl rfl (by decide) m_209 rfl rfl dX8_primeEdge_42 ?_
            refine w_getN cx hP 5 5 0 rfl rfl (by decide) n_166 rfl rfl dX8_primeEdge_45 ?_
            refine lv_iload_n hx hb dX8_primeEdge_48 rfl (lv_at hl 3 rfl) ?_
            obtain ⟨g_49, hM⟩ := gd_some hM
            refine w_iald cx hP 6 rfl g_49 dX8_primeEdge_49 ?_
            obtain rfl := Option.some.inj hM
            exact hfin 50 _ _ _ dX8_primeEdge_50 hP hD hS
          · have hM := if_t hM c_35
            refine lv_bipush (v := (nI 4294967287)) hx hb dX8_primeEdge_38 (by decide) ?_
            obtain rfl := Option.some.inj hM
            exact hfin 40 _ _ _ dX8_primeEdge_40 hP hD hS
        · have hM := if_f hM c_17
          refine lv_iconst (v := (nI 4294967295)) hx hb dX8_primeEdge_20 (by decide) ?_
          obtain rfl := Option.some.inj hM
          exact hfin 21 _ _ _ dX8_primeEdge_21 hP hD hS
noncomputable def f_X8_primeSign (p1 : Int32) (p2 : Int32) (t_graph_vertices : Int32) (t_graph_edges : Int32) (a_t_graph_firsts : Nat → Int32) (a_t_graph_seconds : Nat → Int32) (a_t_graph_signs : Nat → Int32) (t_search_toSkip : Int32) (a_t_search_word : Nat → Int32) : Option (Int32 × Int32 × (Nat → Int32)) :=
  bd (f_X8_isPrimeLength p1) (fun (q_1 : Int32) => if q_1 = 0 then some ((nI 0), t_search_toSkip, a_t_search_word) else if 0 ≤ p2 then bd (f_X5_find p1 p2 t_search_toSkip a_t_search_word t_graph_vertices t_graph_edges a_t_graph_firsts a_t_graph_seconds a_t_graph_signs) (fun (q_23 : Int32 × Int32 × (Nat → Int32)) => if q_23.1 = 0 then some ((nI 0), q_23.2.1, q_23.2.2) else bd (f_X5_signOfWord p1 q_23.2.1 q_23.2.2 t_graph_vertices t_graph_edges a_t_graph_signs) (fun (q_40 : Int32) => some (q_40, q_23.2.1, q_23.2.2))) else some ((nI 0), t_search_toSkip, a_t_search_word))
theorem yq_X8_primeSign : yq yX8_primeSign 2 := by unfold yq; decide +kernel
set_option maxHeartbeats 4000000 in
set_option maxRecDepth 100000 in
theorem c_X8_primeSign (g : GG) (l : Launch) (h_t : Nat) (h_t_graph : Nat) (h_t_draft : Nat) (h_t_history : Nat) (h_t_text : Nat) (h_t_grouping : Nat) (h_t_counter : Nat) (h_t_search : Nat) (h_t_edgePolynomial : Nat) (h_t_vertexPolynomial : Nat) (h_t_graph_firsts : Nat) (h_t_graph_seconds : Nat) (h_t_graph_signs : Nat) (h_t_search_word : Nat) (p1 : Int32) (p2 : Int32) (t_graph_vertices : Int32) (t_graph_edges : Int32) (a_t_graph_firsts : Nat → Int32) (a_t_graph_seconds : Nat → Int32) (a_t_graph_signs : Nat → Int32) (t_search_toSkip : Int32) (a_t_search_word : Nat → Int32) {R : Int32 × Int32 × (Nat → Int32)} (hM : f_X8_primeSign p1 p2 t_graph_vertices t_graph_edges a_t_graph_firsts a_t_graph_seconds a_t_graph_signs t_search_toSkip a_t_search_word = some R) : CT g l yX8_primeSign cX8_primeSign 3 (some .int) 12 305 [.ref h_t, .int p1, .int p2] [ob h_t 8 [.ref h_t_graph, .ref h_t_draft, .ref h_t_history, .ref h_t_text, .ref h_t_grouping, .ref h_t_counter, .ref h_t_search, .ref h_t_edgePolynomial, .ref h_t_vertexPolynomial], ob h_t_graph 2 [.int t_graph_vertices, .int t_graph_edges, .ref h_t_graph_firsts, .ref h_t_graph_seconds, .ref h_t_graph_signs], aI g h_t_graph_firsts 9 a_t_graph_firsts, aI g h_t_graph_seconds 9 a_t_graph_seconds, aI g h_t_graph_signs 9 a_t_graph_signs, ob h_t_search 5 [.ref h_t_search_word, .int t_search_toSkip], aI g h_t_search_word 5 a_t_search_word] [ob h_t 8 [.ref h_t_graph, .ref h_t_draft, .ref h_t_history, .ref h_t_text, .ref h_t_grouping, .ref h_t_counter, .ref h_t_search, .ref h_t_edgePolynomial, .ref h_t_vertexPolynomial], ob h_t_graph 2 [.int t_graph_vertices, .int t_graph_edges, .ref h_t_graph_firsts, .ref h_t_graph_seconds, .ref h_t_graph_signs], aI g h_t_graph_firsts 9 a_t_graph_firsts, aI g h_t_graph_seconds 9 a_t_graph_seconds, aI g h_t_graph_signs 9 a_t_graph_signs, ob h_t_search 5 [.ref h_t_search_word, .int R.2.1], aI g h_t_search_word 5 R.2.2] (some (.int R.1)) := by
  refine ct_i (by decide +kernel) (Nat.le_of_ble_eq_true rfl) ?_
  intro p e s m args below meth c Q A ls cx hP hD hA hl hfin
  obtain ⟨hx, hb, hml, hown, hts, hK⟩ := id cx
  have hl : lv_has ls 3 [(0, .ref h_t), (1, .int p1), (2, .int p2)] := hl
  have hS : va_S A s.heap s.heap [] := va_S.rf
  refine lv_iload_n hx hb dX8_primeSign_0 rfl (lv_at hl 1 rfl) ?_
  obtain ⟨q_1, hc_1, hM⟩ := bd_some hM
  refine w_callS cx hP hD hS hA (c_X8_isPrimeLength g l p1 hc_1) [] rfl (by decide) rfl [ob h_t 8 [.ref h_t_graph, .ref h_t_draft, .ref h_t_history, .ref h_t_text, .ref h_t_grouping, .ref h_t_counter, .ref h_t_search, .ref h_t_edgePolynomial, .ref h_t_vertexPolynomial], ob h_t_graph 2 [.int t_graph_vertices, .int t_graph_edges, .ref h_t_graph_firsts, .ref h_t_graph_seconds, .ref h_t_graph_signs], aI g h_t_graph_firsts 9 a_t_graph_firsts, aI g h_t_graph_seconds 9 a_t_graph_seconds, aI g h_t_graph_signs 9 a_t_graph_signs, ob h_t_search 5 [.ref h_t_search_word, .int t_search_toSkip], aI g h_t_search_word 5 a_t_search_word] rfl yq_X8_isPrimeLength m_474 m_475 m_17 m_476 ⟨Nat.le_of_ble_eq_true rfl, Nat.le_of_ble_eq_true rfl⟩ rfl rfl hl.1 (Nat.le_of_ble_eq_true rfl) dX8_primeSign_1 ⟨Nat.le_refl 0, Nat.le_refl 0⟩ rfl (fun H locs hP hD hS => ?_)
  refine lv_if_eq (tgt := 11) hx hb dX8_primeSign_4 (by decide) (fun c_4 => ?_) (fun c_4 => ?_)
  · have hM := if_t hM c_4
    refine lv_iconst (v := (nI 0)) hx hb dX8_primeSign_11 (by decide) ?_
    obtain rfl := Option.some.inj hM
    exact hfin 12 _ _ _ dX8_primeSign_12 hP hD hS
  · have hM := if_f hM c_4
    refine lv_iload_n hx hb dX8_primeSign_7 rfl (lv_at hl 2 rfl) ?_
    refine lv_if_ge (tgt := 13) hx hb dX8_primeSign_8 (by decide) (fun c_8 => ?_) (fun c_8 => ?_)
    · have hM := if_t hM c_8
      refine lv_aload_n hx hb dX8_primeSign_13 rfl (lv_at hl 0 rfl) ?_
      refine w_get cx hP 0 8 6 rfl rfl (by decide) m_209 rfl rfl dX8_primeSign_14 ?_
      refine lv_aload_n hx hb dX8_primeSign_17 rfl (lv_at hl 0 rfl) ?_
      refine w_get cx hP 0 8 0 rfl rfl (by decide) m_203 rfl rfl dX8_primeSign_18 ?_
      refine lv_iload_n hx hb dX8_primeSign_21 rfl (lv_at hl 1 rfl) ?_
      refine lv_iload_n hx hb dX8_primeSign_22 rfl (lv_at hl 2 rfl) ?_
      obtain ⟨q_23, hc_23, hM⟩ := bd_some hM
      refine w_callV cx hP hD hS hA (c_X5_find g l h_t_search h_t_search_word h_t_graph h_t_graph_firsts h_t_graph_seconds h_t_graph_signs p1 p2 t_search_toSkip a_t_search_word t_graph_vertices t_graph_edges a_t_graph_firsts a_t_graph_seconds a_t_graph_signs hc_23) [5, 6, 1, 2, 3, 4] rfl (by decide) rfl [ob h_t 8 [.ref h_t_graph, .ref h_t_draft, .ref h_t_history, .ref h_t_text, .ref h_t_grouping, .ref h_t_counter, .ref h_t_search, .ref h_t_edgePolynomial, .ref h_t_vertexPolynomial], ob h_t_graph 2 [.int t_graph_vertices, .int t_graph_edges, .ref h_t_graph_firsts, .ref h_t_graph_seconds, .ref h_t_graph_signs], aI g h_t_graph_firsts 9 a_t_graph_firsts, aI g h_t_graph_seconds 9 a_t_graph_seconds, aI g h_t_graph_signs 9 a_t_graph_signs, ob h_t_search 5 [.ref h_t_search_word, .int q_23.2.1], aI g h_t_search_word 5 q_23.2.2] rfl 5 5 rfl rfl yq_X5_find rfl m_477 m_478 m_479 m_23 m_480 ⟨Nat.le_of_ble_eq_true rfl, Nat.le_of_ble_eq_true rfl⟩ rfl rfl hl.1 (Nat.le_of_ble_eq_true rfl) dX8_primeSign_23 ⟨Nat.le_refl 0, Nat.le_refl 0⟩ rfl (fun H locs hP hD hS => ?_)
      refine lv_if_ne (tgt := 31) hx hb dX8_primeSign_26 (by decide) (fun c_26 => ?_) (fun c_26 => ?_)
      · have hM := if_f hM c_26
        refine lv_aload_n hx hb dX8_primeSign_31 rfl (lv_at hl 0 rfl) ?_
        refine w_get cx hP 0 8 6 rfl rfl (by decide) m_209 rfl rfl dX8_primeSign_32 ?_
        refine lv_aload_n hx hb dX8_primeSign_35 rfl (lv_at hl 0 rfl) ?_
        refine w_get cx hP 0 8 0 rfl rfl (by decide) m_203 rfl rfl dX8_primeSign_36 ?_
        refine lv_iload_n hx hb dX8_primeSign_39 rfl (lv_at hl 1 rfl) ?_
        obtain ⟨q_40, hc_40, hM⟩ := bd_some hM
        refine w_callV cx hP hD hS hA (c_X5_signOfWord g l h_t_search h_t_search_word h_t_graph h_t_graph_firsts h_t_graph_seconds h_t_graph_signs p1 q_23.2.1 q_23.2.2 t_graph_vertices t_graph_edges a_t_graph_signs hc_40) [5, 6, 1, 4] rfl (by decide) rfl [ob h_t 8 [.ref h_t_graph, .ref h_t_draft, .ref h_t_history, .ref h_t_text, .ref h_t_grouping, .ref h_t_counter, .ref h_t_search, .ref h_t_edgePolynomial, .ref h_t_vertexPolynomial], ob h_t_graph 2 [.int t_graph_vertices, .int t_graph_edges, .ref h_t_graph_firsts, .ref h_t_graph_seconds, .ref h_t_graph_signs], aI g h_t_graph_firsts 9 a_t_graph_firsts, aI g h_t_graph_seconds 9 a_t_graph_seconds, aI g h_t_graph_signs 9 a_t_graph_signs, ob h_t_search 5 [.ref h_t_search_word, .int q_23.2.1], aI g h_t_search_word 5 q_23.2.2] rfl 5 5 rfl rfl yq_X5_signOfWord rfl m_494 m_495 m_496 m_23 m_497 ⟨Nat.le_of_ble_eq_true rfl, Nat.le_of_ble_eq_true rfl⟩ rfl rfl hl.1 (Nat.le_of_ble_eq_true rfl) dX8_primeSign_40 ⟨Nat.le_refl 0, Nat.le_refl 0⟩ rfl (fun H locs hP hD hS => ?_)
        obtain rfl := Option.some.inj hM
        exact hfin 43 _ _ _ dX8_primeSign_43 hP hD hS
      · have hM := if_t hM c_26
        refine lv_iconst (v := (nI 0)) hx hb dX8_primeSign_29 (by decide) ?_
        obtain rfl := Option.some.inj hM
        exact hfin 30 _ _ _ dX8_primeSign_30 hP hD hS
    · have hM := if_f hM c_8
      refine lv_iconst (v := (nI 0)) hx hb dX8_primeSign_11 (by decide) ?_
      obtain rfl := Option.some.inj hM
      exact hfin 12 _ _ _ dX8_primeSign_12 hP hD hS
noncomputable def f_X8_vertexCoefficient (p1 : Int32) (t_graph_vertices : Int32) (t_graph_edges : Int32) (a_t_graph_firsts : Nat → Int32) (a_t_graph_seconds : Nat → Int32) (a_t_vertexPolynomial_coefficients : Nat → Int64) (M_t_vertexPolynomial_minors : Nat → Nat → Int64) : Option (Int64 × (Nat → Int64) × (Nat → Nat → Int64)) :=
  bd (f_X8_isIndex p1 (nI 12)) (fun (q_3 : Int32) => if q_3 = 0 then some ((-9223372036854775808 : Int64), a_t_vertexPolynomial_coefficients, M_t_vertexPolynomial_minors) else bd (f_X6_makeFrom a_t_vertexPolynomial_coefficients t_graph_vertices t_graph_edges a_t_graph_firsts a_t_graph_seconds M_t_vertexPolynomial_minors) (fun (q_21 : (Nat → Int64) × (Nat → Nat → Int64)) => gd (inb p1 19) (some (q_21.1 p1.toNatClampNeg, q_21.1, q_21.2))))
theorem yq_X8_vertexCoefficient : yq yX8_vertexCoefficient 1 := by unfold yq; decide +kernel
set_option maxHeartbeats 4000000 in
set_option maxRecDepth 100000 in
theorem c_X8_vertexCoefficient (g : GG) (l : Launch) (h_t : Nat) (h_t_graph : Nat) (h_t_draft : Nat) (h_t_history : Nat) (h_t_text : Nat) (h_t_grouping : Nat) (h_t_counter : Nat) (h_t_search : Nat) (h_t_edgePolynomial : Nat) (h_t_vertexPolynomial : Nat) (h_t_graph_firsts : Nat) (h_t_graph_seconds : Nat) (h_t_graph_signs : Nat) (h_t_vertexPolynomial_coefficients : Nat) (h_t_vertexPolynomial_minors : Nat) (ra_h_t_vertexPolynomial_minors : Nat → Nat) (p1 : Int32) (t_graph_vertices : Int32) (t_graph_edges : Int32) (a_t_graph_firsts : Nat → Int32) (a_t_graph_seconds : Nat → Int32) (a_t_vertexPolynomial_coefficients : Nat → Int64) (M_t_vertexPolynomial_minors : Nat → Nat → Int64) {R : Int64 × (Nat → Int64) × (Nat → Nat → Int64)} (hM : f_X8_vertexCoefficient p1 t_graph_vertices t_graph_edges a_t_graph_firsts a_t_graph_seconds a_t_vertexPolynomial_coefficients M_t_vertexPolynomial_minors = some R) : CT g l yX8_vertexCoefficient cX8_vertexCoefficient 2 (some .long) 4 102 [.ref h_t, .int p1] ([ob h_t 8 [.ref h_t_graph, .ref h_t_draft, .ref h_t_history, .ref h_t_text, .ref h_t_grouping, .ref h_t_counter, .ref h_t_search, .ref h_t_edgePolynomial, .ref h_t_vertexPolynomial], ob h_t_graph 2 [.int t_graph_vertices, .int t_graph_edges, .ref h_t_graph_firsts, .ref h_t_graph_seconds, .ref h_t_graph_signs], aI g h_t_graph_firsts 9 a_t_graph_firsts, aI g h_t_graph_seconds 9 a_t_graph_seconds, ob h_t_vertexPolynomial 6 [.ref h_t_vertexPolynomial_coefficients, .ref h_t_vertexPolynomial_minors], aJ g h_t_vertexPolynomial_coefficients 19 a_t_vertexPolynomial_coefficients, aM g h_t_vertexPolynomial_minors 64 (mref ra_h_t_vertexPolynomial_minors)] ++ (mrows g ra_h_t_vertexPolynomial_minors M_t_vertexPolynomial_minors)) ([ob h_t 8 [.ref h_t_graph, .ref h_t_draft, .ref h_t_history, .ref h_t_text, .ref h_t_grouping, .ref h_t_counter, .ref h_t_search, .ref h_t_edgePolynomial, .ref h_t_vertexPolynomial], ob h_t_graph 2 [.int t_graph_vertices, .int t_graph_edges, .ref h_t_graph_firsts, .ref h_t_graph_seconds, .ref h_t_graph_signs], aI g h_t_graph_firsts 9 a_t_graph_firsts, aI g h_t_graph_seconds 9 a_t_graph_seconds, ob h_t_vertexPolynomial 6 [.ref h_t_vertexPolynomial_coefficients, .ref h_t_vertexPolynomial_minors], aJ g h_t_vertexPolynomial_coefficients 19 R.2.1, aM g h_t_vertexPolynomial_minors 64 (mref ra_h_t_vertexPolynomial_minors)] ++ (mrows g ra_h_t_vertexPolynomial_minors R.2.2)) (some (.long R.1)) := by
  refine ct_l (by decide +kernel) (Nat.le_of_ble_eq_true rfl) ?_
  intro p e s m args below meth c Q A ls cx hP hD hA hl hfin
  obtain ⟨hx, hb, hml, hown, hts, hK⟩ := id cx
  have hl : lv_has ls 2 [(0, .ref h_t), (1, .int p1)] := hl
  have hS : va_S A s.heap s.heap [] := va_S.rf
  refine lv_iload_n hx hb dX8_vertexCoefficient_0 rfl (lv_at hl 1 rfl) ?_
  refine lv_bipush (v := (nI 12)) hx hb dX8_vertexCoefficient_1 (by decide) ?_
  obtain ⟨q_3, hc_3, hM⟩ := bd_some hM
  refine w_callS cx hP hD hS hA (c_X8_isIndex g l p1 (nI 12) hc_3) [] rfl (by decide) rfl ([ob h_t 8 [.ref h_t_graph, .ref h_t_draft, .ref h_t_history, .ref h_t_text, .ref h_t_grouping, .ref h_t_counter, .ref h_t_search, .ref h_t_edgePolynomial, .ref h_t_vertexPolynomial], ob h_t_graph 2 [.int t_graph_vertices, .int t_graph_edges, .ref h_t_graph_firsts, .ref h_t_graph_seconds, .ref h_t_graph_signs], aI g h_t_graph_firsts 9 a_t_graph_firsts, aI g h_t_graph_seconds 9 a_t_graph_seconds, ob h_t_vertexPolynomial 6 [.ref h_t_vertexPolynomial_coefficients, .ref h_t_vertexPolynomial_minors], aJ g h_t_vertexPolynomial_coefficients 19 a_t_vertexPolynomial_coefficients, aM g h_t_vertexPolynomial_minors 64 (mref ra_h_t_vertexPolynomial_minors)] ++ (mrows g ra_h_t_vertexPolynomial_minors M_t_vertexPolynomial_minors)) rfl yq_X8_isIndex m_502 m_503 m_17 m_504 ⟨Nat.le_of_ble_eq_true rfl, Nat.le_of_ble_eq_true rfl⟩ rfl rfl hl.1 (Nat.le_of_ble_eq_true rfl) dX8_vertexCoefficient_3 ⟨Nat.le_refl 0, Nat.le_refl 0⟩ rfl (fun H locs hP hD hS => ?_)
  refine lv_if_ne (tgt := 13) hx hb dX8_vertexCoefficient_6 (by decide) (fun c_6 => ?_) (fun c_6 => ?_)
  · have hM := if_f hM c_6
    refine lv_aload_n hx hb dX8_vertexCoefficient_13 rfl (lv_at hl 0 rfl) ?_
    refine w_get cx hP 0 8 8 rfl rfl (by decide) m_211 rfl rfl dX8_vertexCoefficient_14 ?_
    refine lv_aload_n hx hb dX8_vertexCoefficient_17 rfl (lv_at hl 0 rfl) ?_
    refine w_get cx hP 0 8 0 rfl rfl (by decide) m_203 rfl rfl dX8_vertexCoefficient_18 ?_
    obtain ⟨q_21, hc_21, hM⟩ := bd_some hM
    refine w_callV cx hP hD hS hA (c_X6_makeFrom g l h_t_vertexPolynomial h_t_vertexPolynomial_coefficients h_t_vertexPolynomial_minors h_t_graph h_t_graph_firsts h_t_graph_seconds h_t_graph_signs ra_h_t_vertexPolynomial_minors a_t_vertexPolynomial_coefficients t_graph_vertices t_graph_edges a_t_graph_firsts a_t_graph_seconds M_t_vertexPolynomial_minors hc_21) ([4, 5, 1, 2, 3, 6] ++ blk 7 64) (blk_C rfl mrows_len rfl) (blk_nd (by decide) (by decide)) (blk_f rfl mrows_f) ([ob h_t 8 [.ref h_t_graph, .ref h_t_draft, .ref h_t_history, .ref h_t_text, .ref h_t_grouping, .ref h_t_counter, .ref h_t_search, .ref h_t_edgePolynomial, .ref h_t_vertexPolynomial], ob h_t_graph 2 [.int t_graph_vertices, .int t_graph_edges, .ref h_t_graph_firsts, .ref h_t_graph_seconds, .ref h_t_graph_signs], aI g h_t_graph_firsts 9 a_t_graph_firsts, aI g h_t_graph_seconds 9 a_t_graph_seconds, ob h_t_vertexPolynomial 6 [.ref h_t_vertexPolynomial_coefficients, .ref h_t_vertexPolynomial_minors], aJ g h_t_vertexPolynomial_coefficients 19 q_21.1, aM g h_t_vertexPolynomial_minors 64 (mref ra_h_t_vertexPolynomial_minors)] ++ (mrows g ra_h_t_vertexPolynomial_minors q_21.2)) (blk_S rfl mrows_len mrows_len rfl (by decide) rfl) 4 6 rfl rfl yq_X6_makeFrom rfl m_521 m_522 m_523 m_25 m_524 ⟨Nat.le_of_ble_eq_true rfl, Nat.le_of_ble_eq_true rfl⟩ rfl rfl hl.1 (Nat.le_of_ble_eq_true rfl) dX8_vertexCoefficient_21 ⟨Nat.le_refl 0, Nat.le_refl 0⟩ rfl (fun H locs hP hD hS => ?_)
    refine lv_aload_n hx hb dX8_vertexCoefficient_24 rfl (lv_at hl 0 rfl) ?_
    refine w_get cx hP 0 8 8 rfl rfl (by decide) m_211 rfl rfl dX8_vertexCoefficient_25 ?_
    refine w_getN cx hP 4 6 0 rfl rfl (by decide) n_196 rfl rfl dX8_vertexCoefficient_28 ?_
    refine lv_iload_n hx hb dX8_vertexCoefficient_31 rfl (lv_at hl 1 rfl) ?_
    obtain ⟨g_32, hM⟩ := gd_some hM
    refine w_lald cx hP 5 rfl g_32 dX8_vertexCoefficient_32 ?_
    obtain rfl := Option.some.inj hM
    exact hfin 33 _ _ _ dX8_vertexCoefficient_33 hP hD hS
  · have hM := if_t hM c_6
    refine lv_ldc2 hx hb hown (hts _ m_366) dX8_vertexCoefficient_9 ?_
    obtain rfl := Option.some.inj hM
    exact hfin 12 _ _ _ dX8_vertexCoefficient_12 hP hD hS
noncomputable def f_X8_bassCoefficient (p1 : Int32) (t_graph_vertices : Int32) (t_graph_edges : Int32) (a_t_graph_firsts : Nat → Int32) (a_t_graph_seconds : Nat → Int32) (a_t_vertexPolynomial_coefficients : Nat → Int64) (M_t_vertexPolynomial_minors : Nat → Nat → Int64) : Option (Int64 × (Nat → Int64) × (Nat → Nat → Int64)) :=
  bd (f_X8_isIndex p1 (nI 18)) (fun (q_3 : Int32) => if q_3 = 0 then some ((-9223372036854775808 : Int64), a_t_vertexPolynomial_coefficients, M_t_vertexPolynomial_minors) else bd (f_X6_makeFrom a_t_vertexPolynomial_coefficients t_graph_vertices t_graph_edges a_t_graph_firsts a_t_graph_seconds M_t_vertexPolynomial_minors) (fun (q_21 : (Nat → Int64) × (Nat → Nat → Int64)) => bd (f_X6_turnIntoBass (t_graph_edges - t_graph_vertices) q_21.1) (fun (q_43 : Nat → Int64) => gd (inb p1 19) (some (q_43 p1.toNatClampNeg, q_43, q_21.2)))))
theorem yq_X8_bassCoefficient : yq yX8_bassCoefficient 1 := by unfold yq; decide +kernel
set_option maxHeartbeats 4000000 in
set_option maxRecDepth 100000 in
theorem c_X8_bassCoefficient (g : GG) (l : Launch) (h_t : Nat) (h_t_graph : Nat) (h_t_draft : Nat) (h_t_history : Nat) (h_t_text : Nat) (h_t_grouping : Nat) (h_t_counter : Nat) (h_t_search : Nat) (h_t_edgePolynomial : Nat) (h_t_vertexPolynomial : Nat) (h_t_graph_firsts : Nat) (h_t_graph_seconds : Nat) (h_t_graph_signs : Nat) (h_t_vertexPolynomial_coefficients : Nat) (h_t_vertexPolynomial_minors : Nat) (ra_h_t_vertexPolynomial_minors : Nat → Nat) (p1 : Int32) (t_graph_vertices : Int32) (t_graph_edges : Int32) (a_t_graph_firsts : Nat → Int32) (a_t_graph_seconds : Nat → Int32) (a_t_vertexPolynomial_coefficients : Nat → Int64) (M_t_vertexPolynomial_minors : Nat → Nat → Int64) {R : Int64 × (Nat → Int64) × (Nat → Nat → Int64)} (hM : f_X8_bassCoefficient p1 t_graph_vertices t_graph_edges a_t_graph_firsts a_t_graph_seconds a_t_vertexPolynomial_coefficients M_t_vertexPolynomial_minors = some R) : CT g l yX8_bassCoefficient cX8_bassCoefficient 2 (some .long) 4 102 [.ref h_t, .int p1] ([ob h_t 8 [.ref h_t_graph, .ref h_t_draft, .ref h_t_history, .ref h_t_text, .ref h_t_grouping, .ref h_t_counter, .ref h_t_search, .ref h_t_edgePolynomial, .ref h_t_vertexPolynomial], ob h_t_graph 2 [.int t_graph_vertices, .int t_graph_edges, .ref h_t_graph_firsts, .ref h_t_graph_seconds, .ref h_t_graph_signs], aI g h_t_graph_firsts 9 a_t_graph_firsts, aI g h_t_graph_seconds 9 a_t_graph_seconds, ob h_t_vertexPolynomial 6 [.ref h_t_vertexPolynomial_coefficients, .ref h_t_vertexPolynomial_minors], aJ g h_t_vertexPolynomial_coefficients 19 a_t_vertexPolynomial_coefficients, aM g h_t_vertexPolynomial_minors 64 (mref ra_h_t_vertexPolynomial_minors)] ++ (mrows g ra_h_t_vertexPolynomial_minors M_t_vertexPolynomial_minors)) ([ob h_t 8 [.ref h_t_graph, .ref h_t_draft, .ref h_t_history, .ref h_t_text, .ref h_t_grouping, .ref h_t_counter, .ref h_t_search, .ref h_t_edgePolynomial, .ref h_t_vertexPolynomial], ob h_t_graph 2 [.int t_graph_vertices, .int t_graph_edges, .ref h_t_graph_firsts, .ref h_t_graph_seconds, .ref h_t_graph_signs], aI g h_t_graph_firsts 9 a_t_graph_firsts, aI g h_t_graph_seconds 9 a_t_graph_seconds, ob h_t_vertexPolynomial 6 [.ref h_t_vertexPolynomial_coefficients, .ref h_t_vertexPolynomial_minors], aJ g h_t_vertexPolynomial_coefficients 19 R.2.1, aM g h_t_vertexPolynomial_minors 64 (mref ra_h_t_vertexPolynomial_minors)] ++ (mrows g ra_h_t_vertexPolynomial_minors R.2.2)) (some (.long R.1)) := by
  refine ct_l (by decide +kernel) (Nat.le_of_ble_eq_true rfl) ?_
  intro p e s m args below meth c Q A ls cx hP hD hA hl hfin
  obtain ⟨hx, hb, hml, hown, hts, hK⟩ := id cx
  have hl : lv_has ls 2 [(0, .ref h_t), (1, .int p1)] := hl
  have hS : va_S A s.heap s.heap [] := va_S.rf
  refine lv_iload_n hx hb dX8_bassCoefficient_0 rfl (lv_at hl 1 rfl) ?_
  refine lv_bipush (v := (nI 18)) hx hb dX8_bassCoefficient_1 (by decide) ?_
  obtain ⟨q_3, hc_3, hM⟩ := bd_some hM
  refine w_callS cx hP hD hS hA (c_X8_isIndex g l p1 (nI 18) hc_3) [] rfl (by decide) rfl ([ob h_t 8 [.ref h_t_graph, .ref h_t_draft, .ref h_t_history, .ref h_t_text, .ref h_t_grouping, .ref h_t_counter, .ref h_t_search, .ref h_t_edgePolynomial, .ref h_t_vertexPolynomial], ob h_t_graph 2 [.int t_graph_vertices, .int t_graph_edges, .ref h_t_graph_firsts, .ref h_t_graph_seconds, .ref h_t_graph_signs], aI g h_t_graph_firsts 9 a_t_graph_firsts, aI g h_t_graph_seconds 9 a_t_graph_seconds, ob h_t_vertexPolynomial 6 [.ref h_t_vertexPolynomial_coefficients, .ref h_t_vertexPolynomial_minors], aJ g h_t_vertexPolynomial_coefficients 19 a_t_vertexPolynomial_coefficients, aM g h_t_vertexPolynomial_minors 64 (mref ra_h_t_vertexPolynomial_minors)] ++ (mrows g ra_h_t_vertexPolynomial_minors M_t_vertexPolynomial_minors)) rfl yq_X8_isIndex m_502 m_503 m_17 m_504 ⟨Nat.le_of_ble_eq_true rfl, Nat.le_of_ble_eq_true rfl⟩ rfl rfl hl.1 (Nat.le_of_ble_eq_true rfl) dX8_bassCoefficient_3 ⟨Nat.le_refl 0, Nat.le_refl 0⟩ rfl (fun H locs hP hD hS => ?_)
  refine lv_if_ne (tgt := 13) hx hb dX8_bassCoefficient_6 (by decide) (fun c_6 => ?_) (fun c_6 => ?_)
  · have hM := if_f hM c_6
    refine lv_aload_n hx hb dX8_bassCoefficient_13 rfl (lv_at hl 0 rfl) ?_
    refine w_get cx hP 0 8 8 rfl rfl (by decide) m_211 rfl rfl dX8_bassCoefficient_14 ?_
    refine lv_aload_n hx hb dX8_bassCoefficient_17 rfl (lv_at hl 0 rfl) ?_
    refine w_get cx hP 0 8 0 rfl rfl (by decide) m_203 rfl rfl dX8_bassCoefficient_18 ?_
    obtain ⟨q_21, hc_21, hM⟩ := bd_some hM
    refine w_callV cx hP hD hS hA (c_X6_makeFrom g l h_t_vertexPolynomial h_t_vertexPolynomial_coefficients h_t_vertexPolynomial_minors h_t_graph h_t_graph_firsts h_t_graph_seconds h_t_graph_signs ra_h_t_vertexPolynomial_minors a_t_vertexPolynomial_coefficients t_graph_vertices t_graph_edges a_t_graph_firsts a_t_graph_seconds M_t_vertexPolynomial_minors hc_21) ([4, 5, 1, 2, 3, 6] ++ blk 7 64) (blk_C rfl mrows_len rfl) (blk_nd (by decide) (by decide)) (blk_f rfl mrows_f) ([ob h_t 8 [.ref h_t_graph, .ref h_t_draft, .ref h_t_history, .ref h_t_text, .ref h_t_grouping, .ref h_t_counter, .ref h_t_search, .ref h_t_edgePolynomial, .ref h_t_vertexPolynomial], ob h_t_graph 2 [.int t_graph_vertices, .int t_graph_edges, .ref h_t_graph_firsts, .ref h_t_graph_seconds, .ref h_t_graph_signs], aI g h_t_graph_firsts 9 a_t_graph_firsts, aI g h_t_graph_seconds 9 a_t_graph_seconds, ob h_t_vertexPolynomial 6 [.ref h_t_vertexPolynomial_coefficients, .ref h_t_vertexPolynomial_minors], aJ g h_t_vertexPolynomial_coefficients 19 q_21.1, aM g h_t_vertexPolynomial_minors 64 (mref ra_h_t_vertexPolynomial_minors)] ++ (mrows g ra_h_t_vertexPolynomial_minors q_21.2)) (blk_S rfl mrows_len mrows_len rfl (by decide) rfl) 4 6 rfl rfl yq_X6_makeFrom rfl m_521 m_522 m_523 m_25 m_524 ⟨Nat.le_of_ble_eq_true rfl, Nat.le_of_ble_eq_true rfl⟩ rfl rfl hl.1 (Nat.le_of_ble_eq_true rfl) dX8_bassCoefficient_21 ⟨Nat.le_refl 0, Nat.le_refl 0⟩ rfl (fun H locs hP hD hS => ?_)
    refine lv_aload_n hx hb dX8_bassCoefficient_24 rfl (lv_at hl 0 rfl) ?_
    refine w_get cx hP 0 8 8 rfl rfl (by decide) m_211 rfl rfl dX8_bassCoefficient_25 ?_
    refine lv_aload_n hx hb dX8_bassCoefficient_28 rfl (lv_at hl 0 rfl) ?_
    refine w_get cx hP 0 8 0 rfl rfl (by decide) m_203 rfl rfl dX8_bassCoefficient_29 ?_
    refine w_getN cx hP 1 2 1 rfl rfl (by decide) n_49 rfl rfl dX8_bassCoefficient_32 ?_
    refine lv_aload_n hx hb dX8_bassCoefficient_35 rfl (lv_at hl 0 rfl) ?_
    refine w_get cx hP 0 8 0 rfl rfl (by decide) m_203 rfl rfl dX8_bassCoefficient_36 ?_
    refine w_getN cx hP 1 2 0 rfl rfl (by decide) n_45 rfl rfl dX8_bassCoefficient_39 ?_
    refine lv_isub hx hb dX8_bassCoefficient_42 ?_
    obtain ⟨q_43, hc_43, hM⟩ := bd_some hM
    refine w_callV cx hP hD hS hA (c_X6_turnIntoBass g l h_t_vertexPolynomial h_t_vertexPolynomial_coefficients h_t_vertexPolynomial_minors (t_graph_edges - t_graph_vertices) q_21.1 hc_43) [4, 5] rfl (by decide) rfl ([ob h_t 8 [.ref h_t_graph, .ref h_t_draft, .ref h_t_history, .ref h_t_text, .ref h_t_grouping, .ref h_t_counter, .ref h_t_search, .ref h_t_edgePolynomial, .ref h_t_vertexPolynomial], ob h_t_graph 2 [.int t_graph_vertices, .int t_graph_edges, .ref h_t_graph_firsts, .ref h_t_graph_seconds, .ref h_t_graph_signs], aI g h_t_graph_firsts 9 a_t_graph_firsts, aI g h_t_graph_seconds 9 a_t_graph_seconds, ob h_t_vertexPolynomial 6 [.ref h_t_vertexPolynomial_coefficients, .ref h_t_vertexPolynomial_minors], aJ g h_t_vertexPolynomial_coefficients 19 q_43, aM g h_t_vertexPolynomial_minors 64 (mref ra_h_t_vertexPolynomial_minors)] ++ (mrows g ra_h_t_vertexPolynomial_minors q_21.2)) rfl 4 6 rfl rfl yq_X6_turnIntoBass rfl m_554 m_555 m_556 m_25 m_557 ⟨Nat.le_of_ble_eq_true rfl, Nat.le_of_ble_eq_true rfl⟩ rfl rfl hl.1 (Nat.le_of_ble_eq_true rfl) dX8_bassCoefficient_43 ⟨Nat.le_refl 0, Nat.le_refl 0⟩ rfl (fun H locs hP hD hS => ?_)
    refine lv_aload_n hx hb dX8_bassCoefficient_46 rfl (lv_at hl 0 rfl) ?_
    refine w_get cx hP 0 8 8 rfl rfl (by decide) m_211 rfl rfl dX8_bassCoefficient_47 ?_
    refine w_getN cx hP 4 6 0 rfl rfl (by decide) n_196 rfl rfl dX8_bassCoefficient_50 ?_
    refine lv_iload_n hx hb dX8_bassCoefficient_53 rfl (lv_at hl 1 rfl) ?_
    obtain ⟨g_54, hM⟩ := gd_some hM
    refine w_lald cx hP 5 rfl g_54 dX8_bassCoefficient_54 ?_
    obtain rfl := Option.some.inj hM
    exact hfin 55 _ _ _ dX8_bassCoefficient_55 hP hD hS
  · have hM := if_t hM c_6
    refine lv_ldc2 hx hb hown (hts _ m_366) dX8_bassCoefficient_9 ?_
    obtain rfl := Option.some.inj hM
    exact hfin 12 _ _ _ dX8_bassCoefficient_12 hP hD hS
