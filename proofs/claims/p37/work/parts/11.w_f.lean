noncomputable def f_X8_clearText (t_text_length : Int32) (t_text_stage : Int32) (t_text_first : Int32) (t_text_second : Int32) (t_text_sign : Int32) : Option (Int32 × Int32) :=
  some (t_text_length, (nI 0))
theorem yq_X8_clearText : yq yX8_clearText 0 := by unfold yq; decide +kernel
set_option maxHeartbeats 4000000 in
set_option maxRecDepth 100000 in
theorem c_X8_clearText (g : GG) (l : Launch) (h_t : Nat) (h_t_graph : Nat) (h_t_draft : Nat) (h_t_history : Nat) (h_t_text : Nat) (h_t_grouping : Nat) (h_t_counter : Nat) (h_t_search : Nat) (h_t_edgePolynomial : Nat) (h_t_vertexPolynomial : Nat) (h_t_text_characters : Nat) (t_text_length : Int32) (t_text_stage : Int32) (t_text_first : Int32) (t_text_second : Int32) (t_text_sign : Int32) {R : Int32 × Int32} (hM : f_X8_clearText t_text_length t_text_stage t_text_first t_text_second t_text_sign = some R) : CT g l yX8_clearText cX8_clearText 2 (some .int) 0 0 [.ref h_t] [ob h_t 8 [.ref h_t_graph, .ref h_t_draft, .ref h_t_history, .ref h_t_text, .ref h_t_grouping, .ref h_t_counter, .ref h_t_search, .ref h_t_edgePolynomial, .ref h_t_vertexPolynomial], ob h_t_text 1 [.int t_text_length, .ref h_t_text_characters, .int t_text_stage, .int t_text_first, .int t_text_second, .int t_text_sign]] [ob h_t 8 [.ref h_t_graph, .ref h_t_draft, .ref h_t_history, .ref h_t_text, .ref h_t_grouping, .ref h_t_counter, .ref h_t_search, .ref h_t_edgePolynomial, .ref h_t_vertexPolynomial], ob h_t_text 1 [.int R.2, .ref h_t_text_characters, .int t_text_stage, .int t_text_first, .int t_text_second, .int t_text_sign]] (some (.int R.1)) := by
  refine ct_i (by decide +kernel) (Nat.le_of_ble_eq_true rfl) ?_
  intro p e s m args below meth c Q A ls cx hP hD hA hl hfin
  obtain ⟨hx, hb, hml, hown, hts, hK⟩ := id cx
  have hl : lv_has ls 2 [(0, .ref h_t)] := hl
  have hS : va_S A s.heap s.heap [] := va_S.rf
  refine lv_aload_n hx hb dX8_clearText_0 rfl (lv_at hl 0 rfl) ?_
  refine w_get cx hP 0 8 3 rfl rfl (by decide) m_206 rfl rfl dX8_clearText_1 ?_
  refine w_getN cx hP 1 1 0 rfl rfl (by decide) n_97 rfl rfl dX8_clearText_4 ?_
  refine lv_istore_n (lv' := [(1, .int t_text_length), (0, .ref h_t)]) hx hb dX8_clearText_7 rfl hl (by decide) rfl (fun ls hl => ?_)
  refine lv_aload_n hx hb dX8_clearText_8 rfl (lv_at hl 1 rfl) ?_
  refine w_get cx hP 0 8 3 rfl rfl (by decide) m_206 rfl rfl dX8_clearText_9 ?_
  refine lv_iconst (v := (nI 0)) hx hb dX8_clearText_12 (by decide) ?_
  refine w_putN cx hP hD hS 1 1 0 rfl rfl (by decide) n_97 rfl rfl rfl (Nat.le_of_ble_eq_true rfl) dX8_clearText_13 [ob h_t 8 [.ref h_t_graph, .ref h_t_draft, .ref h_t_history, .ref h_t_text, .ref h_t_grouping, .ref h_t_counter, .ref h_t_search, .ref h_t_edgePolynomial, .ref h_t_vertexPolynomial], ob h_t_text 1 [.int (nI 0), .ref h_t_text_characters, .int t_text_stage, .int t_text_first, .int t_text_second, .int t_text_sign]] rfl (fun H locs hP hD hS => ?_)
  refine lv_iload_n hx hb dX8_clearText_16 rfl (lv_at hl 0 rfl) ?_
  obtain rfl := Option.some.inj hM
  exact hfin 17 _ _ _ dX8_clearText_17 hP hD hS
noncomputable def f_X8_appendCharacter (p1 : Int32) (t_text_length : Int32) (t_text_stage : Int32) (t_text_first : Int32) (t_text_second : Int32) (t_text_sign : Int32) (a_t_text_characters : Nat → Int32) : Option (Int32 × Int32 × (Nat → Int32)) :=
  if p1 < 0 then some ((nI 4294967295), t_text_length, a_t_text_characters) else if p1 ≤ (nI 255) then if t_text_length < (nI 60) then bd (f_X1_append p1 t_text_length t_text_stage t_text_first t_text_second t_text_sign a_t_text_characters) (fun (q_33 : Int32 × (Nat → Int32)) => some (q_33.1, q_33.1, q_33.2)) else some ((nI 4294967293), t_text_length, a_t_text_characters) else some ((nI 4294967295), t_text_length, a_t_text_characters)
theorem yq_X8_appendCharacter : yq yX8_appendCharacter 1 := by unfold yq; decide +kernel
set_option maxHeartbeats 4000000 in
set_option maxRecDepth 100000 in
theorem c_X8_appendCharacter (g : GG) (l : Launch) (h_t : Nat) (h_t_graph : Nat) (h_t_draft : Nat) (h_t_history : Nat) (h_t_text : Nat) (h_t_grouping : Nat) (h_t_counter : Nat) (h_t_search : Nat) (h_t_edgePolynomial : Nat) (h_t_vertexPolynomial : Nat) (h_t_text_characters : Nat) (p1 : Int32) (t_text_length : Int32) (t_text_stage : Int32) (t_text_first : Int32) (t_text_second : Int32) (t_text_sign : Int32) (a_t_text_characters : Nat → Int32) {R : Int32 × Int32 × (Nat → Int32)} (hM : f_X8_appendCharacter p1 t_text_length t_text_stage t_text_first t_text_second t_text_sign a_t_text_characters = some R) : CT g l yX8_appendCharacter cX8_appendCharacter 2 (some .int) 1 21 [.ref h_t, .int p1] [ob h_t 8 [.ref h_t_graph, .ref h_t_draft, .ref h_t_history, .ref h_t_text, .ref h_t_grouping, .ref h_t_counter, .ref h_t_search, .ref h_t_edgePolynomial, .ref h_t_vertexPolynomial], ob h_t_text 1 [.int t_text_length, .ref h_t_text_characters, .int t_text_stage, .int t_text_first, .int t_text_second, .int t_text_sign], aI g h_t_text_characters 60 a_t_text_characters] [ob h_t 8 [.ref h_t_graph, .ref h_t_draft, .ref h_t_history, .ref h_t_text, .ref h_t_grouping, .ref h_t_counter, .ref h_t_search, .ref h_t_edgePolynomial, .ref h_t_vertexPolynomial], ob h_t_text 1 [.int R.2.1, .ref h_t_text_characters, .int t_text_stage, .int t_text_first, .int t_text_second, .int t_text_sign], aI g h_t_text_characters 60 R.2.2] (some (.int R.1)) := by
  refine ct_i (by decide +kernel) (Nat.le_of_ble_eq_true rfl) ?_
  intro p e s m args below meth c Q A ls cx hP hD hA hl hfin
  obtain ⟨hx, hb, hml, hown, hts, hK⟩ := id cx
  have hl : lv_has ls 2 [(0, .ref h_t), (1, .int p1)] := hl
  have hS : va_S A s.heap s.heap [] := va_S.rf
  refine lv_iload_n hx hb dX8_appendCharacter_0 rfl (lv_at hl 1 rfl) ?_
  refine lv_if_lt (tgt := 11) hx hb dX8_appendCharacter_1 (by decide) (fun c_1 => ?_) (fun c_1 => ?_)
  · have hM := if_t hM c_1
    refine lv_iconst (v := (nI 4294967295)) hx hb dX8_appendCharacter_11 (by decide) ?_
    obtain rfl := Option.some.inj hM
    exact hfin 12 _ _ _ dX8_appendCharacter_12 hP hD hS
  · have hM := if_f hM c_1
    refine lv_iload_n hx hb dX8_appendCharacter_4 rfl (lv_at hl 1 rfl) ?_
    refine lv_sipush (v := (nI 255)) hx hb dX8_appendCharacter_5 (by decide) ?_
    refine lv_icmp_le (tgt := 13) hx hb dX8_appendCharacter_8 (by decide) (fun c_8 => ?_) (fun c_8 => ?_)
    · have hM := if_t hM c_8
      refine lv_aload_n hx hb dX8_appendCharacter_13 rfl (lv_at hl 0 rfl) ?_
      refine w_get cx hP 0 8 3 rfl rfl (by decide) m_206 rfl rfl dX8_appendCharacter_14 ?_
      refine w_getN cx hP 1 1 0 rfl rfl (by decide) n_97 rfl rfl dX8_appendCharacter_17 ?_
      refine lv_bipush (v := (nI 60)) hx hb dX8_appendCharacter_20 (by decide) ?_
      refine lv_icmp_lt (tgt := 28) hx hb dX8_appendCharacter_22 (by decide) (fun c_22 => ?_) (fun c_22 => ?_)
      · have hM := if_t hM c_22
        refine lv_aload_n hx hb dX8_appendCharacter_28 rfl (lv_at hl 0 rfl) ?_
        refine w_get cx hP 0 8 3 rfl rfl (by decide) m_206 rfl rfl dX8_appendCharacter_29 ?_
        refine lv_iload_n hx hb dX8_appendCharacter_32 rfl (lv_at hl 1 rfl) ?_
        obtain ⟨q_33, hc_33, hM⟩ := bd_some hM
        refine w_callV cx hP hD hS hA (c_X1_append g l h_t_text h_t_text_characters p1 t_text_length t_text_stage t_text_first t_text_second t_text_sign a_t_text_characters hc_33) [1, 2] rfl (by decide) rfl [ob h_t 8 [.ref h_t_graph, .ref h_t_draft, .ref h_t_history, .ref h_t_text, .ref h_t_grouping, .ref h_t_counter, .ref h_t_search, .ref h_t_edgePolynomial, .ref h_t_vertexPolynomial], ob h_t_text 1 [.int q_33.1, .ref h_t_text_characters, .int t_text_stage, .int t_text_first, .int t_text_second, .int t_text_sign], aI g h_t_text_characters 60 q_33.2] rfl 1 1 rfl rfl yq_X1_append rfl m_423 m_424 m_425 m_20 m_426 ⟨Nat.le_of_ble_eq_true rfl, Nat.le_of_ble_eq_true rfl⟩ rfl rfl hl.1 (Nat.le_of_ble_eq_true rfl) dX8_appendCharacter_33 ⟨Nat.le_refl 0, Nat.le_refl 0⟩ rfl (fun H locs hP hD hS => ?_)
        refine lv_aload_n hx hb dX8_appendCharacter_36 rfl (lv_at hl 0 rfl) ?_
        refine w_get cx hP 0 8 3 rfl rfl (by decide) m_206 rfl rfl dX8_appendCharacter_37 ?_
        refine w_getN cx hP 1 1 0 rfl rfl (by decide) n_97 rfl rfl dX8_appendCharacter_40 ?_
        obtain rfl := Option.some.inj hM
        exact hfin 43 _ _ _ dX8_appendCharacter_43 hP hD hS
      · have hM := if_f hM c_22
        refine lv_bipush (v := (nI 4294967293)) hx hb dX8_appendCharacter_25 (by decide) ?_
        obtain rfl := Option.some.inj hM
        exact hfin 27 _ _ _ dX8_appendCharacter_27 hP hD hS
    · have hM := if_f hM c_8
      refine lv_iconst (v := (nI 4294967295)) hx hb dX8_appendCharacter_11 (by decide) ?_
      obtain rfl := Option.some.inj hM
      exact hfin 12 _ _ _ dX8_appendCharacter_12 hP hD hS
noncomputable def f_X8_vertexCount (t_graph_vertices : Int32) (t_graph_edges : Int32) : Option (Int32) :=
  some t_graph_vertices
theorem yq_X8_vertexCount : yq yX8_vertexCount 0 := by unfold yq; decide +kernel
set_option maxHeartbeats 4000000 in
set_option maxRecDepth 100000 in
theorem c_X8_vertexCount (g : GG) (l : Launch) (h_t : Nat) (h_t_graph : Nat) (h_t_draft : Nat) (h_t_history : Nat) (h_t_text : Nat) (h_t_grouping : Nat) (h_t_counter : Nat) (h_t_search : Nat) (h_t_edgePolynomial : Nat) (h_t_vertexPolynomial : Nat) (h_t_graph_firsts : Nat) (h_t_graph_seconds : Nat) (h_t_graph_signs : Nat) (t_graph_vertices : Int32) (t_graph_edges : Int32) {R : Int32} (hM : f_X8_vertexCount t_graph_vertices t_graph_edges = some R) : CT g l yX8_vertexCount cX8_vertexCount 1 (some .int) 0 0 [.ref h_t] [ob h_t 8 [.ref h_t_graph, .ref h_t_draft, .ref h_t_history, .ref h_t_text, .ref h_t_grouping, .ref h_t_counter, .ref h_t_search, .ref h_t_edgePolynomial, .ref h_t_vertexPolynomial], ob h_t_graph 2 [.int t_graph_vertices, .int t_graph_edges, .ref h_t_graph_firsts, .ref h_t_graph_seconds, .ref h_t_graph_signs]] [ob h_t 8 [.ref h_t_graph, .ref h_t_draft, .ref h_t_history, .ref h_t_text, .ref h_t_grouping, .ref h_t_counter, .ref h_t_search, .ref h_t_edgePolynomial, .ref h_t_vertexPolynomial], ob h_t_graph 2 [.int t_graph_vertices, .int t_graph_edges, .ref h_t_graph_firsts, .ref h_t_graph_seconds, .ref h_t_graph_signs]] (some (.int R)) := by
  refine ct_i (by decide +kernel) (Nat.le_of_ble_eq_true rfl) ?_
  intro p e s m args below meth c Q A ls cx hP hD hA hl hfin
  obtain ⟨hx, hb, hml, hown, hts, hK⟩ := id cx
  have hl : lv_has ls 1 [(0, .ref h_t)] := hl
  have hS : va_S A s.heap s.heap [] := va_S.rf
  refine lv_aload_n hx hb dX8_vertexCount_0 rfl (lv_at hl 0 rfl) ?_
  refine w_get cx hP 0 8 0 rfl rfl (by decide) m_203 rfl rfl dX8_vertexCount_1 ?_
  refine w_getN cx hP 1 2 0 rfl rfl (by decide) n_45 rfl rfl dX8_vertexCount_4 ?_
  obtain rfl := Option.some.inj hM
  exact hfin 7 _ _ _ dX8_vertexCount_7 hP hD hS
noncomputable def f_X8_edgeCount (t_graph_vertices : Int32) (t_graph_edges : Int32) : Option (Int32) :=
  some t_graph_edges
theorem yq_X8_edgeCount : yq yX8_edgeCount 0 := by unfold yq; decide +kernel
set_option maxHeartbeats 4000000 in
set_option maxRecDepth 100000 in
theorem c_X8_edgeCount (g : GG) (l : Launch) (h_t : Nat) (h_t_graph : Nat) (h_t_draft : Nat) (h_t_history : Nat) (h_t_text : Nat) (h_t_grouping : Nat) (h_t_counter : Nat) (h_t_search : Nat) (h_t_edgePolynomial : Nat) (h_t_vertexPolynomial : Nat) (h_t_graph_firsts : Nat) (h_t_graph_seconds : Nat) (h_t_graph_signs : Nat) (t_graph_vertices : Int32) (t_graph_edges : Int32) {R : Int32} (hM : f_X8_edgeCount t_graph_vertices t_graph_edges = some R) : CT g l yX8_edgeCount cX8_edgeCount 1 (some .int) 0 0 [.ref h_t] [ob h_t 8 [.ref h_t_graph, .ref h_t_draft, .ref h_t_history, .ref h_t_text, .ref h_t_grouping, .ref h_t_counter, .ref h_t_search, .ref h_t_edgePolynomial, .ref h_t_vertexPolynomial], ob h_t_graph 2 [.int t_graph_vertices, .int t_graph_edges, .ref h_t_graph_firsts, .ref h_t_graph_seconds, .ref h_t_graph_signs]] [ob h_t 8 [.ref h_t_graph, .ref h_t_draft, .ref h_t_history, .ref h_t_text, .ref h_t_grouping, .ref h_t_counter, .ref h_t_search, .ref h_t_edgePolynomial, .ref h_t_vertexPolynomial], ob h_t_graph 2 [.int t_graph_vertices, .int t_graph_edges, .ref h_t_graph_firsts, .ref h_t_graph_seconds, .ref h_t_graph_signs]] (some (.int R)) := by
  refine ct_i (by decide +kernel) (Nat.le_of_ble_eq_true rfl) ?_
  intro p e s m args below meth c Q A ls cx hP hD hA hl hfin
  obtain ⟨hx, hb, hml, hown, hts, hK⟩ := id cx
  have hl : lv_has ls 1 [(0, .ref h_t)] := hl
  have hS : va_S A s.heap s.heap [] := va_S.rf
  refine lv_aload_n hx hb dX8_edgeCount_0 rfl (lv_at hl 0 rfl) ?_
  refine w_get cx hP 0 8 0 rfl rfl (by decide) m_203 rfl rfl dX8_edgeCount_1 ?_
  refine w_getN cx hP 1 2 1 rfl rfl (by decide) n_49 rfl rfl dX8_edgeCount_4 ?_
  obtain rfl := Option.some.inj hM
  exact hfin 7 _ _ _ dX8_edgeCount_7 hP hD hS
noncomputable def f_X8_headOf (p1 : Int32) (t_graph_vertices : Int32) (t_graph_edges : Int32) (a_t_graph_firsts : Nat → Int32) (a_t_graph_seconds : Nat → Int32) : Option (Int32) :=
  bd (f_X2_hasDirected p1 t_graph_vertices t_graph_edges) (fun (q_5 : Int32) => if q_5 = 0 then some (nI 4294967295) else bd (f_X2_endOf p1 t_graph_vertices t_graph_edges a_t_graph_firsts a_t_graph_seconds) (fun (q_18 : Int32) => some q_18))
theorem yq_X8_headOf : yq yX8_headOf 1 := by unfold yq; decide +kernel
set_option maxHeartbeats 4000000 in
set_option maxRecDepth 100000 in
theorem c_X8_headOf (g : GG) (l : Launch) (h_t : Nat) (h_t_graph : Nat) (h_t_draft : Nat) (h_t_history : Nat) (h_t_text : Nat) (h_t_grouping : Nat) (h_t_counter : Nat) (h_t_search : Nat) (h_t_edgePolynomial : Nat) (h_t_vertexPolynomial : Nat) (h_t_graph_firsts : Nat) (h_t_graph_seconds : Nat) (h_t_graph_signs : Nat) (p1 : Int32) (t_graph_vertices : Int32) (t_graph_edges : Int32) (a_t_graph_firsts : Nat → Int32) (a_t_graph_seconds : Nat → Int32) {R : Int32} (hM : f_X8_headOf p1 t_graph_vertices t_graph_edges a_t_graph_firsts a_t_graph_seconds = some R) : CT g l yX8_headOf cX8_headOf 2 (some .int) 1 21 [.ref h_t, .int p1] [ob h_t 8 [.ref h_t_graph, .ref h_t_draft, .ref h_t_history, .ref h_t_text, .ref h_t_grouping, .ref h_t_counter, .ref h_t_search, .ref h_t_edgePolynomial, .ref h_t_vertexPolynomial], ob h_t_graph 2 [.int t_graph_vertices, .int t_graph_edges, .ref h_t_graph_firsts, .ref h_t_graph_seconds, .ref h_t_graph_signs], aI g h_t_graph_firsts 9 a_t_graph_firsts, aI g h_t_graph_seconds 9 a_t_graph_seconds] [ob h_t 8 [.ref h_t_graph, .ref h_t_draft, .ref h_t_history, .ref h_t_text, .ref h_t_grouping, .ref h_t_counter, .ref h_t_search, .ref h_t_edgePolynomial, .ref h_t_vertexPolynomial], ob h_t_graph 2 [.int t_graph_vertices, .int t_graph_edges, .ref h_t_graph_firsts, .ref h_t_graph_seconds, .ref h_t_graph_signs], aI g h_t_graph_firsts 9 a_t_graph_firsts, aI g h_t_graph_seconds 9 a_t_graph_seconds] (some (.int R)) := by
  refine ct_i (by decide +kernel) (Nat.le_of_ble_eq_true rfl) ?_
  intro p e s m args below meth c Q A ls cx hP hD hA hl hfin
  obtain ⟨hx, hb, hml, hown, hts, hK⟩ := id cx
  have hl : lv_has ls 2 [(0, .ref h_t), (1, .int p1)] := hl
  have hS : va_S A s.heap s.heap [] := va_S.rf
  refine lv_aload_n hx hb dX8_headOf_0 rfl (lv_at hl 0 rfl) ?_
  refine w_get cx hP 0 8 0 rfl rfl (by decide) m_203 rfl rfl dX8_headOf_1 ?_
  refine lv_iload_n hx hb dX8_headOf_4 rfl (lv_at hl 1 rfl) ?_
  obtain ⟨q_5, hc_5, hM⟩ := bd_some hM
  refine w_callV cx hP hD hS hA (c_X2_hasDirected g l h_t_graph h_t_graph_firsts h_t_graph_seconds h_t_graph_signs p1 t_graph_vertices t_graph_edges hc_5) [1] rfl (by decide) rfl [ob h_t 8 [.ref h_t_graph, .ref h_t_draft, .ref h_t_history, .ref h_t_text, .ref h_t_grouping, .ref h_t_counter, .ref h_t_search, .ref h_t_edgePolynomial, .ref h_t_vertexPolynomial], ob h_t_graph 2 [.int t_graph_vertices, .int t_graph_edges, .ref h_t_graph_firsts, .ref h_t_graph_seconds, .ref h_t_graph_signs], aI g h_t_graph_firsts 9 a_t_graph_firsts, aI g h_t_graph_seconds 9 a_t_graph_seconds] rfl 1 2 rfl rfl yq_X2_hasDirected rfl m_351 m_352 m_353 m_18 m_354 ⟨Nat.le_of_ble_eq_true rfl, Nat.le_of_ble_eq_true rfl⟩ rfl rfl hl.1 (Nat.le_of_ble_eq_true rfl) dX8_headOf_5 ⟨Nat.le_refl 0, Nat.le_refl 0⟩ rfl (fun H locs hP hD hS => ?_)
  refine lv_if_ne (tgt := 13) hx hb dX8_headOf_8 (by decide) (fun c_8 => ?_) (fun c_8 => ?_)
  · have hM := if_f hM c_8
    refine lv_aload_n hx hb dX8_headOf_13 rfl (lv_at hl 0 rfl) ?_
    refine w_get cx hP 0 8 0 rfl rfl (by decide) m_203 rfl rfl dX8_headOf_14 ?_
    refine lv_iload_n hx hb dX8_headOf_17 rfl (lv_at hl 1 rfl) ?_
    obtain ⟨q_18, hc_18, hM⟩ := bd_some hM
    refine w_callV cx hP hD hS hA (c_X2_endOf g l h_t_graph h_t_graph_firsts h_t_graph_seconds h_t_graph_signs p1 t_graph_vertices t_graph_edges a_t_graph_firsts a_t_graph_seconds hc_18) [1, 2, 3] rfl (by decide) rfl [ob h_t 8 [.ref h_t_graph, .ref h_t_draft, .ref h_t_history, .ref h_t_text, .ref h_t_grouping, .ref h_t_counter, .ref h_t_search, .ref h_t_edgePolynomial, .ref h_t_vertexPolynomial], ob h_t_graph 2 [.int t_graph_vertices, .int t_graph_edges, .ref h_t_graph_firsts, .ref h_t_graph_seconds, .ref h_t_graph_signs], aI g h_t_graph_firsts 9 a_t_graph_firsts, aI g h_t_graph_seconds 9 a_t_graph_seconds] rfl 1 2 rfl rfl yq_X2_endOf rfl m_355 m_356 m_357 m_18 m_358 ⟨Nat.le_of_ble_eq_true rfl, Nat.le_of_ble_eq_true rfl⟩ rfl rfl hl.1 (Nat.le_of_ble_eq_true rfl) dX8_headOf_18 ⟨Nat.le_refl 0, Nat.le_refl 0⟩ rfl (fun H locs hP hD hS => ?_)
    obtain rfl := Option.some.inj hM
    exact hfin 21 _ _ _ dX8_headOf_21 hP hD hS
  · have hM := if_t hM c_8
    refine lv_iconst (v := (nI 4294967295)) hx hb dX8_headOf_11 (by decide) ?_
    obtain rfl := Option.some.inj hM
    exact hfin 12 _ _ _ dX8_headOf_12 hP hD hS
noncomputable def f_X8_follows (p1 : Int32) (p2 : Int32) (t_graph_vertices : Int32) (t_graph_edges : Int32) (a_t_graph_firsts : Nat → Int32) (a_t_graph_seconds : Nat → Int32) : Option (Int32) :=
  bd (f_X2_hasDirected p1 t_graph_vertices t_graph_edges) (fun (q_5 : Int32) => if q_5 = 0 then some (nI 4294967295) else bd (f_X2_hasDirected p2 t_graph_vertices t_graph_edges) (fun (q_16 : Int32) => if q_16 = 0 then some (nI 4294967295) else bd (f_X2_leadsOn p1 p2 t_graph_vertices t_graph_edges a_t_graph_firsts a_t_graph_seconds) (fun (q_30 : Int32) => if q_30 = 0 then some (nI 0) else some (nI 1))))
theorem yq_X8_follows : yq yX8_follows 2 := by unfold yq; decide +kernel
set_option maxHeartbeats 4000000 in
set_option maxRecDepth 100000 in
theorem c_X8_follows (g : GG) (l : Launch) (h_t : Nat) (h_t_graph : Nat) (h_t_draft : Nat) (h_t_history : Nat) (h_t_text : Nat) (h_t_grouping : Nat) (h_t_counter : Nat) (h_t_search : Nat) (h_t_edgePolynomial : Nat) (h_t_vertexPolynomial : Nat) (h_t_graph_firsts : Nat) (h_t_graph_seconds : Nat) (h_t_graph_signs : Nat) (p1 : Int32) (p2 : Int32) (t_graph_vertices : Int32) (t_graph_edges : Int32) (a_t_graph_firsts : Nat → Int32) (a_t_graph_seconds : Nat → Int32) {R : Int32} (hM : f_X8_follows p1 p2 t_graph_vertices t_graph_edges a_t_graph_firsts a_t_graph_seconds = some R) : CT g l yX8_follows cX8_follows 3 (some .int) 2 43 [.ref h_t, .int p1, .int p2] [ob h_t 8 [.ref h_t_graph, .ref h_t_draft, .ref h_t_history, .ref h_t_text, .ref h_t_grouping, .ref h_t_counter, .ref h_t_search, .ref h_t_edgePolynomial, .ref h_t_vertexPolynomial], ob h_t_graph 2 [.int t_graph_vertices, .int t_graph_edges, .ref h_t_graph_firsts, .ref h_t_graph_seconds, .ref h_t_graph_signs], aI g h_t_graph_firsts 9 a_t_graph_firsts, aI g h_t_graph_seconds 9 a_t_graph_seconds] [ob h_t 8 [.ref h_t_graph, .ref h_t_draft, .ref h_t_history, .ref h_t_text, .ref h_t_grouping, .ref h_t_counter, .ref h_t_search, .ref h_t_edgePolynomial, .ref h_t_vertexPolynomial], ob h_t_graph 2 [.int t_graph_vertices, .int t_graph_edges, .ref h_t_graph_firsts, .ref h_t_graph_seconds, .ref h_t_graph_signs], aI g h_t_graph_firsts 9 a_t_graph_firsts, aI g h_t_graph_seconds 9 a_t_graph_seconds] (some (.int R)) := by
  refine ct_i (by decide +kernel) (Nat.le_of_ble_eq_true rfl) ?_
  intro p e s m args below meth c Q A ls cx hP hD hA hl hfin
  obtain ⟨hx, hb, hml, hown, hts, hK⟩ := id cx
  have hl : lv_has ls 3 [(0, .ref h_t), (1, .int p1), (2, .int p2)] := hl
  have hS : va_S A s.heap s.heap [] := va_S.rf
  refine lv_aload_n hx hb dX8_follows_0 rfl (lv_at hl 0 rfl) ?_
  refine w_get cx hP 0 8 0 rfl rfl (by decide) m_203 rfl rfl dX8_follows_1 ?_
  refine lv_iload_n hx hb dX8_follows_4 rfl (lv_at hl 1 rfl) ?_
  obtain ⟨q_5, hc_5, hM⟩ := bd_some hM
  refine w_callV cx hP hD hS hA (c_X2_hasDirected g l h_t_graph h_t_graph_firsts h_t_graph_seconds h_t_graph_signs p1 t_graph_vertices t_graph_edges hc_5) [1] rfl (by decide) rfl [ob h_t 8 [.ref h_t_graph, .ref h_t_draft, .ref h_t_history, .ref h_t_text, .ref h_t_grouping, .ref h_t_counter, .ref h_t_search, .ref h_t_edgePolynomial, .ref h_t_vertexPolynomial], ob h_t_graph 2 [.int t_graph_vertices, .int t_graph_edges, .ref h_t_graph_firsts, .ref h_t_graph_seconds, .ref h_t_graph_signs], aI g h_t_graph_firsts 9 a_t_graph_firsts, aI g h_t_graph_seconds 9 a_t_graph_seconds] rfl 1 2 rfl rfl yq_X2_hasDirected rfl m_351 m_352 m_353 m_18 m_354 ⟨Nat.le_of_ble_eq_true rfl, Nat.le_of_ble_eq_true rfl⟩ rfl rfl hl.1 (Nat.le_of_ble_eq_true rfl) dX8_follows_5 ⟨Nat.le_refl 0, Nat.le_refl 0⟩ rfl (fun H locs hP hD hS => ?_)
  refine lv_if_eq (tgt := 22) hx hb dX8_follows_8 (by decide) (fun c_8 => ?_) (fun c_8 => ?_)
  · have hM := if_t hM c_8
    refine lv_iconst (v := (nI 4294967295)) hx hb dX8_follows_22 (by decide) ?_
    obtain rfl := Option.some.inj hM
    exact hfin 23 _ _ _ dX8_follows_23 hP hD hS
  · have hM := if_f hM c_8
    refine lv_aload_n hx hb dX8_follows_11 rfl (lv_at hl 0 rfl) ?_
    refine w_get cx hP 0 8 0 rfl rfl (by decide) m_203 rfl rfl dX8_follows_12 ?_
    refine lv_iload_n hx hb dX8_follows_15 rfl (lv_at hl 2 rfl) ?_
    obtain ⟨q_16, hc_16, hM⟩ := bd_some hM
    refine w_callV cx hP hD hS hA (c_X2_hasDirected g l h_t_graph h_t_graph_firsts h_t_graph_seconds h_t_graph_signs p2 t_graph_vertices t_graph_edges hc_16) [1] rfl (by decide) rfl [ob h_t 8 [.ref h_t_graph, .ref h_t_draft, .ref h_t_history, .ref h_t_text, .ref h_t_grouping, .ref h_t_counter, .ref h_t_search, .ref h_t_edgePolynomial, .ref h_t_vertexPolynomial], ob h_t_graph 2 [.int t_graph_vertices, .int t_graph_edges, .ref h_t_graph_firsts, .ref h_t_graph_seconds, .ref h_t_graph_signs], aI g h_t_graph_firsts 9 a_t_graph_firsts, aI g h_t_graph_seconds 9 a_t_graph_seconds] rfl 1 2 rfl rfl yq_X2_hasDirected rfl m_351 m_352 m_353 m_18 m_354 ⟨Nat.le_of_ble_eq_true rfl, Nat.le_of_ble_eq_true rfl⟩ rfl rfl hl.1 (Nat.le_of_ble_eq_true rfl) dX8_follows_16 ⟨Nat.le_refl 0, Nat.le_refl 0⟩ rfl (fun H locs hP hD hS => ?_)
    refine lv_if_ne (tgt := 24) hx hb dX8_follows_19 (by decide) (fun c_19 => ?_) (fun c_19 => ?_)
    · have hM := if_f hM c_19
      refine lv_aload_n hx hb dX8_follows_24 rfl (lv_at hl 0 rfl) ?_
      refine w_get cx hP 0 8 0 rfl rfl (by decide) m_203 rfl rfl dX8_follows_25 ?_
      refine lv_iload_n hx hb dX8_follows_28 rfl (lv_at hl 1 rfl) ?_
      refine lv_iload_n hx hb dX8_follows_29 rfl (lv_at hl 2 rfl) ?_
      obtain ⟨q_30, hc_30, hM⟩ := bd_some hM
      refine w_callV cx hP hD hS hA (c_X2_leadsOn g l h_t_graph h_t_graph_firsts h_t_graph_seconds h_t_graph_signs p1 p2 t_graph_vertices t_graph_edges a_t_graph_firsts a_t_graph_seconds hc_30) [1, 2, 3] rfl (by decide) rfl [ob h_t 8 [.ref h_t_graph, .ref h_t_draft, .ref h_t_history, .ref h_t_text, .ref h_t_grouping, .ref h_t_counter, .ref h_t_search, .ref h_t_edgePolynomial, .ref h_t_vertexPolynomial], ob h_t_graph 2 [.int t_graph_vertices, .int t_graph_edges, .ref h_t_graph_firsts, .ref h_t_graph_seconds, .ref h_t_graph_signs], aI g h_t_graph_firsts 9 a_t_graph_firsts, aI g h_t_graph_seconds 9 a_t_graph_seconds] rfl 1 2 rfl rfl yq_X2_leadsOn rfl m_431 m_432 m_433 m_18 m_434 ⟨Nat.le_of_ble_eq_true rfl, Nat.le_of_ble_eq_true rfl⟩ rfl rfl hl.1 (Nat.le_of_ble_eq_true rfl) dX8_follows_30 ⟨Nat.le_refl 0, Nat.le_refl 0⟩ rfl (fun H locs hP hD hS => ?_)
      refine lv_if_eq (tgt := 40) hx hb dX8_follows_33 (by decide) (fun c_33 => ?_) (fun c_33 => ?_)
      · have hM := if_t hM c_33
        refine lv_iconst (v := (nI 0)) hx hb dX8_follows_40 (by decide) ?_
        obtain rfl := Option.some.inj hM
        exact hfin 41 _ _ _ dX8_follows_41 hP hD hS
      · have hM := if_f hM c_33
        refine lv_iconst (v := (nI 1)) hx hb dX8_follows_36 (by decide) ?_
        refine lv_goto (tgt := 41) hx hb dX8_follows_37 (by decide) ?_
        obtain rfl := Option.some.inj hM
        exact hfin 41 _ _ _ dX8_follows_41 hP hD hS
    · have hM := if_t hM c_19
      refine lv_iconst (v := (nI 4294967295)) hx hb dX8_follows_22 (by decide) ?_
      obtain rfl := Option.some.inj hM
      exact hfin 23 _ _ _ dX8_follows_23 hP hD hS
noncomputable def f_X8_degree (p1 : Int32) (t_graph_vertices : Int32) (t_graph_edges : Int32) (a_t_graph_firsts : Nat → Int32) (a_t_graph_seconds : Nat → Int32) : Option (Int32) :=
  bd (f_X2_hasVertex p1 t_graph_vertices t_graph_edges) (fun (q_5 : Int32) => if q_5 = 0 then some (nI 4294967295) else bd (f_X2_edgesAt p1 t_graph_vertices t_graph_edges a_t_graph_firsts a_t_graph_seconds) (fun (q_18 : Int32) => some q_18))
theorem yq_X8_degree : yq yX8_degree 1 := by unfold yq; decide +kernel
set_option maxHeartbeats 4000000 in
set_option maxRecDepth 100000 in
theorem c_X8_degree (g : GG) (l : Launch) (h_t : Nat) (h_t_graph : Nat) (h_t_draft : Nat) (h_t_history : Nat) (h_t_text : Nat) (h_t_grouping : Nat) (h_t_counter : Nat) (h_t_search : Nat) (h_t_edgePolynomial : Nat) (h_t_vertexPolynomial : Nat) (h_t_graph_firsts : Nat) (h_t_graph_seconds : Nat) (h_t_graph_signs : Nat) (p1 : Int32) (t_graph_vertices : Int32) (t_graph_edges : Int32) (a_t_graph_firsts : Nat → Int32) (a_t_graph_seconds : Nat → Int32) {R : Int32} (hM : f_X8_degree p1 t_graph_vertices t_graph_edges a_t_graph_firsts a_t_graph_seconds = some R) : CT g l yX8_degree cX8_degree 2 (some .int) 1 23 [.ref h_t, .int p1] [ob h_t 8 [.ref h_t_graph, .ref h_t_draft, .ref h_t_history, .ref h_t_text, .ref h_t_grouping, .ref h_t_counter, .ref h_t_search, .ref h_t_edgePolynomial, .ref h_t_vertexPolynomial], ob h_t_graph 2 [.int t_graph_vertices, .int t_graph_edges, .ref h_t_graph_firsts, .ref h_t_graph_seconds, .ref h_t_graph_signs], aI g h_t_graph_firsts 9 a_t_graph_firsts, aI g h_t_graph_seconds 9 a_t_graph_seconds] [ob h_t 8 [.ref h_t_graph, .ref h_t_draft, .ref h_t_history, .ref h_t_text, .ref h_t_grouping, .ref h_t_counter, .ref h_t_search, .ref h_t_edgePolynomial, .ref h_t_vertexPolynomial], ob h_t_graph 2 [.int t_graph_vertices, .int t_graph_edges, .ref h_t_graph_firsts, .ref h_t_graph_seconds, .ref h_t_graph_signs], aI g h_t_graph_firsts 9 a_t_graph_firsts, aI g h_t_graph_seconds 9 a_t_graph_seconds] (some (.int R)) := by
  refine ct_i (by decide +kernel) (Nat.le_of_ble_eq_true rfl) ?_
  intro p e s m args below meth c Q A ls cx hP hD hA hl hfin
  obtain ⟨hx, hb, hml, hown, hts, hK⟩ := id cx
  have hl : lv_has ls 2 [(0, .ref h_t), (1, .int p1)] := hl
  have hS : va_S A s.heap s.heap [] := va_S.rf
  refine lv_aload_n hx hb dX8_degree_0 rfl (lv_at hl 0 rfl) ?_
  refine w_get cx hP 0 8 0 rfl rfl (by decide) m_203 rfl rfl dX8_degree_1 ?_
  refine lv_iload_n hx hb dX8_degree_4 rfl (lv_at hl 1 rfl) ?_
  obtain ⟨q_5, hc_5, hM⟩ := bd_some hM
  refine w_callV cx hP hD hS hA (c_X2_hasVertex g l h_t_graph h_t_graph_firsts h_t_graph_seconds h_t_graph_signs p1 t_graph_vertices t_graph_edges hc_5) [1] rfl (by decide) rfl [ob h_t 8 [.ref h_t_graph, .ref h_t_draft, .ref h_t_history, .ref h_t_text, .ref h_t_grouping, .ref h_t_counter, .ref h_t_search, .ref h_t_edgePolynomial, .ref h_t_vertexPolynomial], ob h_t_graph 2 [.int t_graph_vertices, .int t_graph_edges, .ref h_t_graph_firsts, .ref h_t_graph_seconds, .ref h_t_graph_signs], aI g h_t_graph_firsts 9 a_t_graph_firsts, aI g h_t_graph_seconds 9 a_t_graph_seconds] rfl 1 2 rfl rfl yq_X2_hasVertex rfl m_235 m_236 m_237 m_18 m_238 ⟨Nat.le_of_ble_eq_true rfl, Nat.le_of_ble_eq_true rfl⟩ rfl rfl hl.1 (Nat.le_of_ble_eq_true rfl) dX8_degree_5 ⟨Nat.le_refl 0, Nat.le_refl 0⟩ rfl (fun H locs hP hD hS => ?_)
  refine lv_if_ne (tgt := 13) hx hb dX8_degree_8 (by decide) (fun c_8 => ?_) (fun c_8 => ?_)
  · have hM := if_f hM c_8
    refine lv_aload_n hx hb dX8_degree_13 rfl (lv_at hl 0 rfl) ?_
    refine w_get cx hP 0 8 0 rfl rfl (by decide) m_203 rfl rfl dX8_degree_14 ?_
    refine lv_iload_n hx hb dX8_degree_17 rfl (lv_at hl 1 rfl) ?_
    obtain ⟨q_18, hc_18, hM⟩ := bd_some hM
    refine w_callV cx hP hD hS hA (c_X2_edgesAt g l h_t_graph h_t_graph_firsts h_t_graph_seconds h_t_graph_signs p1 t_graph_vertices t_graph_edges a_t_graph_firsts a_t_graph_seconds hc_18) [1, 2, 3] rfl (by decide) rfl [ob h_t 8 [.ref h_t_graph, .ref h_t_draft, .ref h_t_history, .ref h_t_text, .ref h_t_grouping, .ref h_t_counter, .ref h_t_search, .ref h_t_edgePolynomial, .ref h_t_vertexPolynomial], ob h_t_graph 2 [.int t_graph_vertices, .int t_graph_edges, .ref h_t_graph_firsts, .ref h_t_graph_seconds, .ref h_t_graph_signs], aI g h_t_graph_firsts 9 a_t_graph_firsts, aI g h_t_graph_seconds 9 a_t_graph_seconds] rfl 1 2 rfl rfl yq_X2_edgesAt rfl m_441 m_442 m_443 m_18 m_444 ⟨Nat.le_of_ble_eq_true rfl, Nat.le_of_ble_eq_true rfl⟩ rfl rfl hl.1 (Nat.le_of_ble_eq_true rfl) dX8_degree_18 ⟨Nat.le_refl 0, Nat.le_refl 0⟩ rfl (fun H locs hP hD hS => ?_)
    obtain rfl := Option.some.inj hM
    exact hfin 21 _ _ _ dX8_degree_21 hP hD hS
  · have hM := if_t hM c_8
    refine lv_iconst (v := (nI 4294967295)) hx hb dX8_degree_11 (by decide) ?_
    obtain rfl := Option.some.inj hM
    exact hfin 12 _ _ _ dX8_degree_12 hP hD hS
noncomputable def f_X8_components (t_graph_vertices : Int32) (t_graph_edges : Int32) (a_t_graph_firsts : Nat → Int32) (a_t_graph_seconds : Nat → Int32) (a_t_graph_signs : Nat → Int32) (a_t_grouping_groups : Nat → Int32) (a_t_grouping_sides : Nat → Int32) : Option (Int32 × (Nat → Int32) × (Nat → Int32)) :=
  bd (f_X3_countGroups a_t_grouping_groups a_t_grouping_sides t_graph_vertices t_graph_edges a_t_graph_firsts a_t_graph_seconds a_t_graph_signs) (fun (q_8 : Int32 × (Nat → Int32) × (Nat → Int32)) => some (q_8.1, q_8.2.1, q_8.2.2))
theorem yq_X8_components : yq yX8_components 0 := by unfold yq; decide +kernel
set_option maxHeartbeats 4000000 in
set_option maxRecDepth 100000 in
theorem c_X8_components (g : GG) (l : Launch) (h_t : Nat) (h_t_graph : Nat) (h_t_draft : Nat) (h_t_history : Nat) (h_t_text : Nat) (h_t_grouping : Nat) (h_t_counter : Nat) (h_t_search : Nat) (h_t_edgePolynomial : Nat) (h_t_vertexPolynomial : Nat) (h_t_graph_firsts : Nat) (h_t_graph_seconds : Nat) (h_t_graph_signs : Nat) (h_t_grouping_groups : Nat) (h_t_grouping_sides : Nat) (t_graph_vertices : Int32) (t_graph_edges : Int32) (a_t_graph_firsts : Nat → Int32) (a_t_graph_seconds : Nat → Int32) (a_t_graph_signs : Nat → Int32) (a_t_grouping_groups : Nat → Int32) (a_t_grouping_sides : Nat → Int32) {R : Int32 × (Nat → Int32) × (Nat → Int32)} (hM : f_X8_components t_graph_vertices t_graph_edges a_t_graph_firsts a_t_graph_seconds a_t_graph_signs a_t_grouping_groups a_t_grouping_sides = some R) : CT g l yX8_components cX8_components 1 (some .int) 3 72 [.ref h_t] [ob h_t 8 [.ref h_t_graph, .ref h_t_draft, .ref h_t_history, .ref h_t_text, .ref h_t_grouping, .ref h_t_counter, .ref h_t_search, .ref h_t_edgePolynomial, .ref h_t_vertexPolynomial], ob h_t_graph 2 [.int t_graph_vertices, .int t_graph_edges, .ref h_t_graph_firsts, .ref h_t_graph_seconds, .ref h_t_graph_signs], aI g h_t_graph_firsts 9 a_t_graph_firsts, aI g h_t_graph_seconds 9 a_t_graph_seconds, aI g h_t_graph_signs 9 a_t_graph_signs, ob h_t_grouping 3 [.ref h_t_grouping_groups, .ref h_t_grouping_sides], aI g h_t_grouping_groups 6 a_t_grouping_groups, aI g h_t_grouping_sides 6 a_t_grouping_sides] [ob h_t 8 [.ref h_t_graph, .ref h_t_draft, .ref h_t_history, .ref h_t_text, .ref h_t_grouping, .ref h_t_counter, .ref h_t_search, .ref h_t_edgePolynomial, .ref h_t_vertexPolynomial], ob h_t_graph 2 [.int t_graph_vertices, .int t_graph_edges, .ref h_t_graph_firsts, .ref h_t_graph_seconds, .ref h_t_graph_signs], aI g h_t_graph_firsts 9 a_t_graph_firsts, aI g h_t_graph_seconds 9 a_t_graph_seconds, aI g h_t_graph_signs 9 a_t_graph_signs, ob h_t_grouping 3 [.ref h_t_grouping_groups, .ref h_t_grouping_sides], aI g h_t_grouping_groups 6 R.2.1, aI g h_t_grouping_sides 6 R.2.2] (some (.int R.1)) := by
  refine ct_i (by decide +kernel) (Nat.le_of_ble_eq_true rfl) ?_
  intro p e s m args below meth c Q A ls cx hP hD hA hl hfin
  obtain ⟨hx, hb, hml, hown, hts, hK⟩ := id cx
  have hl : lv_has ls 1 [(0, .ref h_t)] := hl
  have hS : va_S A s.heap s.heap [] := va_S.rf
  refine lv_aload_n hx hb dX8_components_0 rfl (lv_at hl 0 rfl) ?_
  refine w_get cx hP 0 8 4 rfl rfl (by decide) m_207 rfl rfl dX8_components_1 ?_
  refine lv_aload_n hx hb dX8_components_4 rfl (lv_at hl 0 rfl) ?_
  refine w_get cx hP 0 8 0 rfl rfl (by decide) m_203 rfl rfl dX8_components_5 ?_
  obtain ⟨q_8, hc_8, hM⟩ := bd_some hM
  refine w_callV cx hP hD hS hA (c_X3_countGroups g l h_t_grouping h_t_grouping_groups h_t_grouping_sides h_t_graph h_t_graph_firsts h_t_graph_seconds h_t_graph_signs a_t_grouping_groups a_t_grouping_sides t_graph_vertices t_graph_edges a_t_graph_firsts a_t_graph_seconds a_t_graph_signs hc_8) [5, 6, 7, 1, 2, 3, 4] rfl (by decide) rfl [ob h_t 8 [.ref h_t_graph, .ref h_t_draft, .ref h_t_history, .ref h_t_text, .ref h_t_grouping, .ref h_t_counter, .ref h_t_search, .ref h_t_edgePolynomial, .ref h_t_vertexPolynomial], ob h_t_graph 2 [.int t_graph_vertices, .int t_graph_edges, .ref h_t_graph_firsts, .ref h_t_graph_seconds, .ref h_t_graph_signs], aI g h_t_graph_firsts 9 a_t_graph_firsts, aI g h_t_graph_seconds 9 a_t_graph_seconds, aI g h_t_graph_signs 9 a_t_graph_signs, ob h_t_grouping 3 [.ref h_t_grouping_groups, .ref h_t_grouping_sides], aI g h_t_grouping_groups 6 q_8.2.1, aI g h_t_grouping_sides 6 q_8.2.2] rfl 5 3 rfl rfl yq_X3_countGroups rfl m_632 m_633 m_634 m_21 m_635 ⟨Nat.le_of_ble_eq_true rfl, Nat.le_of_ble_eq_true rfl⟩ rfl rfl hl.1 (Nat.le_of_ble_eq_true rfl) dX8_components_8 ⟨Nat.le_refl 0, Nat.le_refl 0⟩ rfl (fun H locs hP hD hS => ?_)
  obtain rfl := Option.some.inj hM
  exact hfin 11 _ _ _ dX8_components_11 hP hD hS
noncomputable def f_X8_rank (t_graph_vertices : Int32) (t_graph_edges : Int32) (a_t_graph_firsts : Nat → Int32) (a_t_graph_seconds : Nat → Int32) (a_t_graph_signs : Nat → Int32) (a_t_grouping_groups : Nat → Int32) (a_t_grouping_sides : Nat → Int32) : Option (Int32 × (Nat → Int32) × (Nat → Int32)) :=
  bd (f_X3_countGroups a_t_grouping_groups a_t_grouping_sides t_graph_vertices t_graph_edges a_t_graph_firsts a_t_graph_seconds a_t_graph_signs) (fun (q_23 : Int32 × (Nat → Int32) × (Nat → Int32)) => some ((t_graph_edges - t_graph_vertices) + q_23.1, q_23.2.1, q_23.2.2))
theorem yq_X8_rank : yq yX8_rank 0 := by unfold yq; decide +kernel
set_option maxHeartbeats 4000000 in
set_option maxRecDepth 100000 in
theorem c_X8_rank (g : GG) (l : Launch) (h_t : Nat) (h_t_graph : Nat) (h_t_draft : Nat) (h_t_history : Nat) (h_t_text : Nat) (h_t_grouping : Nat) (h_t_counter : Nat) (h_t_search : Nat) (h_t_edgePolynomial : Nat) (h_t_vertexPolynomial : Nat) (h_t_graph_firsts : Nat) (h_t_graph_seconds : Nat) (h_t_graph_signs : Nat) (h_t_grouping_groups : Nat) (h_t_grouping_sides : Nat) (t_graph_vertices : Int32) (t_graph_edges : Int32) (a_t_graph_firsts : Nat → Int32) (a_t_graph_seconds : Nat → Int32) (a_t_graph_signs : Nat → Int32) (a_t_grouping_groups : Nat → Int32) (a_t_grouping_sides : Nat → Int32) {R : Int32 × (Nat → Int32) × (Nat → Int32)} (hM : f_X8_rank t_graph_vertices t_graph_edges a_t_graph_firsts a_t_graph_seconds a_t_graph_signs a_t_grouping_groups a_t_grouping_sides = some R) : CT g l yX8_rank cX8_rank 1 (some .int) 3 72 [.ref h_t] [ob h_t 8 [.ref h_t_graph, .ref h_t_draft, .ref h_t_history, .ref h_t_text, .ref h_t_grouping, .ref h_t_counter, .ref h_t_search, .ref h_t_edgePolynomial, .ref h_t_vertexPolynomial], ob h_t_graph 2 [.int t_graph_vertices, .int t_graph_edges, .ref h_t_graph_firsts, .ref h_t_graph_seconds, .ref h_t_graph_signs], aI g h_t_graph_firsts 9 a_t_graph_firsts, aI g h_t_graph_seconds 9 a_t_graph_seconds, aI g h_t_graph_signs 9 a_t_graph_signs, ob h_t_grouping 3 [.ref h_t_grouping_groups, .ref h_t_grouping_sides], aI g h_t_grouping_groups 6 a_t_grouping_groups, aI g h_t_grouping_sides 6 a_t_grouping_sides] [ob h_t 8 [.ref h_t_graph, .ref h_t_draft, .ref h_t_history, .ref h_t_text, .ref h_t_grouping, .ref h_t_counter, .ref h_t_search, .ref h_t_edgePolynomial, .ref h_t_vertexPolynomial], ob h_t_graph 2 [.int t_graph_vertices, .int t_graph_edges, .ref h_t_graph_firsts, .ref h_t_graph_seconds, .ref h_t_graph_signs], aI g h_t_graph_firsts 9 a_t_graph_firsts, aI g h_t_graph_seconds 9 a_t_graph_seconds, aI g h_t_graph_signs 9 a_t_graph_signs, ob h_t_grouping 3 [.ref h_t_grouping_groups, .ref h_t_grouping_sides], aI g h_t_grouping_groups 6 R.2.1, aI g h_t_grouping_sides 6 R.2.2] (some (.int R.1)) := by
  refine ct_i (by decide +kernel) (Nat.le_of_ble_eq_true rfl) ?_
  intro p e s m args below meth c Q A ls cx hP hD hA hl hfin
  obtain ⟨hx, hb, hml, hown, hts, hK⟩ := id cx
  have hl : lv_has ls 1 [(0, .ref h_t)] := hl
  have hS : va_S A s.heap s.heap [] := va_S.rf
  refine lv_aload_n hx hb dX8_rank_0 rfl (lv_at hl 0 rfl) ?_
  refine w_get cx hP 0 8 0 rfl rfl (by decide) m_203 rfl rfl dX8_rank_1 ?_
  refine w_getN cx hP 1 2 1 rfl rfl (by decide) n_49 rfl rfl dX8_rank_4 ?_
  refine lv_aload_n hx hb dX8_rank_7 rfl (lv_at hl 0 rfl) ?_
  refine w_get cx hP 0 8 0 rfl rfl (by decide) m_203 rfl rfl dX8_rank_8 ?_
  refine w_getN cx hP 1 2 0 rfl rfl (by decide) n_45 rfl rfl dX8_rank_11 ?_
  refine lv_isub hx hb dX8_rank_14 ?_
  refine lv_aload_n hx hb dX8_rank_15 rfl (lv_at hl 0 rfl) ?_
  refine w_get cx hP 0 8 4 rfl rfl (by decide) m_207 rfl rfl dX8_rank_16 ?_
  refine lv_aload_n hx hb dX8_rank_19 rfl (lv_at hl 0 rfl) ?_
  refine w_get cx hP 0 8 0 rfl rfl (by decide) m_203 rfl rfl dX8_rank_20 ?_
  obtain ⟨q_23, hc_23, hM⟩ := bd_some hM
  refine w_callV cx hP hD hS hA (c_X3_countGroups g l h_t_grouping h_t_grouping_groups h_t_grouping_sides h_t_graph h_t_graph_firsts h_t_graph_seconds h_t_graph_signs a_t_grouping_groups a_t_grouping_sides t_graph_vertices t_graph_edges a_t_graph_firsts a_t_graph_seconds a_t_graph_signs hc_23) [5, 6, 7, 1, 2, 3, 4] rfl (by decide) rfl [ob h_t 8 [.ref h_t_graph, .ref h_t_draft, .ref h_t_history, .ref h_t_text, .ref h_t_grouping, .ref h_t_counter, .ref h_t_search, .ref h_t_edgePolynomial, .ref h_t_vertexPolynomial], ob h_t_graph 2 [.int t_graph_vertices, .int t_graph_edges, .ref h_t_graph_firsts, .ref h_t_graph_seconds, .ref h_t_graph_signs], aI g h_t_graph_firsts 9 a_t_graph_firsts, aI g h_t_graph_seconds 9 a_t_graph_seconds, aI g h_t_graph_signs 9 a_t_graph_signs, ob h_t_grouping 3 [.ref h_t_grouping_groups, .ref h_t_grouping_sides], aI g h_t_grouping_groups 6 q_23.2.1, aI g h_t_grouping_sides 6 q_23.2.2] rfl 5 3 rfl rfl yq_X3_countGroups rfl m_632 m_633 m_634 m_21 m_635 ⟨Nat.le_of_ble_eq_true rfl, Nat.le_of_ble_eq_true rfl⟩ rfl rfl hl.1 (Nat.le_of_ble_eq_true rfl) dX8_rank_23 ⟨Nat.le_refl 0, Nat.le_refl 0⟩ rfl (fun H locs hP hD hS => ?_)
  refine lv_iadd hx hb dX8_rank_26 ?_
  obtain rfl := Option.some.inj hM
  exact hfin 27 _ _ _ dX8_rank_27 hP hD hS
noncomputable def f_X8_isBalanced (t_graph_vertices : Int32) (t_graph_edges : Int32) (a_t_graph_firsts : Nat → Int32) (a_t_graph_seconds : Nat → Int32) (a_t_graph_signs : Nat → Int32) (a_t_grouping_groups : Nat → Int32) (a_t_grouping_sides : Nat → Int32) : Option (Int32 × (Nat → Int32) × (Nat → Int32)) :=
  bd (f_X3_canDivide a_t_grouping_groups a_t_grouping_sides t_graph_vertices t_graph_edges a_t_graph_firsts a_t_graph_seconds a_t_graph_signs) (fun (q_8 : Int32 × (Nat → Int32) × (Nat → Int32)) => if q_8.1 = 0 then some ((nI 0), q_8.2.1, q_8.2.2) else some ((nI 1), q_8.2.1, q_8.2.2))
theorem yq_X8_isBalanced : yq yX8_isBalanced 0 := by unfold yq; decide +kernel
set_option maxHeartbeats 4000000 in
set_option maxRecDepth 100000 in
theorem c_X8_isBalanced (g : GG) (l : Launch) (h_t : Nat) (h_t_graph : Nat) (h_t_draft : Nat) (h_t_history : Nat) (h_t_text : Nat) (h_t_grouping : Nat) (h_t_counter : Nat) (h_t_search : Nat) (h_t_edgePolynomial : Nat) (h_t_vertexPolynomial : Nat) (h_t_graph_firsts : Nat) (h_t_graph_seconds : Nat) (h_t_graph_signs : Nat) (h_t_grouping_groups : Nat) (h_t_grouping_sides : Nat) (t_graph_vertices : Int32) (t_graph_edges : Int32) (a_t_graph_firsts : Nat → Int32) (a_t_graph_seconds : Nat → Int32) (a_t_graph_signs : Nat → Int32) (a_t_grouping_groups : Nat → Int32) (a_t_grouping_sides : Nat → Int32) {R : Int32 × (Nat → Int32) × (Nat → Int32)} (hM : f_X8_isBalanced t_graph_vertices t_graph_edges a_t_graph_firsts a_t_graph_seconds a_t_graph_signs a_t_grouping_groups a_t_grouping_sides = some R) : CT g l yX8_isBalanced cX8_isBalanced 1 (some .int) 3 71 [.ref h_t] [ob h_t 8 [.ref h_t_graph, .ref h_t_draft, .ref h_t_history, .ref h_t_text, .ref h_t_grouping, .ref h_t_counter, .ref h_t_search, .ref h_t_edgePolynomial, .ref h_t_vertexPolynomial], ob h_t_graph 2 [.int t_graph_vertices, .int t_graph_edges, .ref h_t_graph_firsts, .ref h_t_graph_seconds, .ref h_t_graph_signs], aI g h_t_graph_firsts 9 a_t_graph_firsts, aI g h_t_graph_seconds 9 a_t_graph_seconds, aI g h_t_graph_signs 9 a_t_graph_signs, ob h_t_grouping 3 [.ref h_t_grouping_groups, .ref h_t_grouping_sides], aI g h_t_grouping_groups 6 a_t_grouping_groups, aI g h_t_grouping_sides 6 a_t_grouping_sides] [ob h_t 8 [.ref h_t_graph, .ref h_t_draft, .ref h_t_history, .ref h_t_text, .ref h_t_grouping, .ref h_t_counter, .ref h_t_search, .ref h_t_edgePolynomial, .ref h_t_vertexPolynomial], ob h_t_graph 2 [.int t_graph_vertices, .int t_graph_edges, .ref h_t_graph_firsts, .ref h_t_graph_seconds, .ref h_t_graph_signs], aI g h_t_graph_firsts 9 a_t_graph_firsts, aI g h_t_graph_seconds 9 a_t_graph_seconds, aI g h_t_graph_signs 9 a_t_graph_signs, ob h_t_grouping 3 [.ref h_t_grouping_groups, .ref h_t_grouping_sides], aI g h_t_grouping_groups 6 R.2.1, aI g h_t_grouping_sides 6 R.2.2] (some (.int R.1)) := by
  refine ct_i (by decide +kernel) (Nat.le_of_ble_eq_true rfl) ?_
  intro p e s m args below meth c Q A ls cx hP hD hA hl hfin
  obtain ⟨hx, hb, hml, hown, hts, hK⟩ := id cx
  have hl : lv_has ls 1 [(0, .ref h_t)] := hl
  have hS : va_S A s.heap s.heap [] := va_S.rf
  refine lv_aload_n hx hb dX8_isBalanced_0 rfl (lv_at hl 0 rfl) ?_
  refine w_get cx hP 0 8 4 rfl rfl (by decide) m_207 rfl rfl dX8_isBalanced_1 ?_
  refine lv_aload_n hx hb dX8_isBalanced_4 rfl (lv_at hl 0 rfl) ?_
  refine w_get cx hP 0 8 0 rfl rfl (by decide) m_203 rfl rfl dX8_isBalanced_5 ?_
  obtain ⟨q_8, hc_8, hM⟩ := bd_some hM
  refine w_callV cx hP hD hS hA (c_X3_canDivide g l h_t_grouping h_t_grouping_groups h_t_grouping_sides h_t_graph h_t_graph_firsts h_t_graph_seconds h_t_graph_signs a_t_grouping_groups a_t_grouping_sides t_graph_vertices t_graph_edges a_t_graph_firsts a_t_graph_seconds a_t_graph_signs hc_8) [5, 6, 7, 1, 2, 3, 4] rfl (by decide) rfl [ob h_t 8 [.ref h_t_graph, .ref h_t_draft, .ref h_t_history, .ref h_t_text, .ref h_t_grouping, .ref h_t_counter, .ref h_t_search, .ref h_t_edgePolynomial, .ref h_t_vertexPolynomial], ob h_t_graph 2 [.int t_graph_vertices, .int t_graph_edges, .ref h_t_graph_firsts, .ref h_t_graph_seconds, .ref h_t_graph_signs], aI g h_t_graph_firsts 9 a_t_graph_firsts, aI g h_t_graph_seconds 9 a_t_graph_seconds, aI g h_t_graph_signs 9 a_t_graph_signs, ob h_t_grouping 3 [.ref h_t_grouping_groups, .ref h_t_grouping_sides], aI g h_t_grouping_groups 6 q_8.2.1, aI g h_t_grouping_sides 6 q_8.2.2] rfl 5 3 rfl rfl yq_X3_canDivide rfl m_400 m_401 m_402 m_21 m_403 ⟨Nat.le_of_ble_eq_true rfl, Nat.le_of_ble_eq_true rfl⟩ rfl rfl hl.1 (Nat.le_of_ble_eq_true rfl) dX8_isBalanced_8 ⟨Nat.le_refl 0, Nat.le_refl 0⟩ rfl (fun H locs hP hD hS => ?_)
  refine lv_if_eq (tgt := 18) hx hb dX8_isBalanced_11 (by decide) (fun c_11 => ?_) (fun c_11 => ?_)
  · have hM := if_t hM c_11
    refine lv_iconst (v := (nI 0)) hx hb dX8_isBalanced_18 (by decide) ?_
    obtain rfl := Option.some.inj hM
    exact hfin 19 _ _ _ dX8_isBalanced_19 hP hD hS
  · have hM := if_f hM c_11
    refine lv_iconst (v := (nI 1)) hx hb dX8_isBalanced_14 (by decide) ?_
    refine lv_goto (tgt := 19) hx hb dX8_isBalanced_15 (by decide) ?_
    obtain rfl := Option.some.inj hM
    exact hfin 19 _ _ _ dX8_isBalanced_19 hP hD hS
noncomputable def f_X8_isWalkLength (p1 : Int32) : Option (Int32) :=
  if p1 < (nI 1) then some (nI 0) else if (nI 18) < p1 then some (nI 0) else some (nI 1)
theorem yq_X8_isWalkLength : yq yX8_isWalkLength 1 := by unfold yq; decide +kernel
set_option maxHeartbeats 4000000 in
set_option maxRecDepth 100000 in
theorem c_X8_isWalkLength (g : GG) (l : Launch) (p1 : Int32) {R : Int32} (hM : f_X8_isWalkLength p1 = some R) : CT g l yX8_isWalkLength cX8_isWalkLength 1 (some .boolean) 0 0 [.int p1] [] [] (some (.int R)) := by
  refine ct_z (by decide +kernel) (Nat.le_of_ble_eq_true rfl) ?_
  intro p e s m args below meth c Q A ls cx hP hD hA hl hfin
  obtain ⟨hx, hb, hml, hown, hts, hK⟩ := id cx
  have hl : lv_has ls 1 [(0, .int p1)] := hl
  have hS : va_S A s.heap s.heap [] := va_S.rf
  refine lv_iload_n hx hb dX8_isWalkLength_0 rfl (lv_at hl 0 rfl) ?_
  refine lv_iconst (v := (nI 1)) hx hb dX8_isWalkLength_1 (by decide) ?_
  refine lv_icmp_lt (tgt := 15) hx hb dX8_isWalkLength_2 (by decide) (fun c_2 => ?_) (fun c_2 => ?_)
  · have hM := if_t hM c_2
    refine lv_iconst (v := (nI 0)) hx hb dX8_isWalkLength_15 (by decide) ?_
    have hz : bq (nI 0) = true := by decide
    obtain rfl := Option.some.inj hM
    exact hfin 16 _ _ _ dX8_isWalkLength_16 hz hP hD hS
  · have hM := if_f hM c_2
    refine lv_iload_n hx hb dX8_isWalkLength_5 rfl (lv_at hl 0 rfl) ?_
    refine lv_bipush (v := (nI 18)) hx hb dX8_isWalkLength_6 (by decide) ?_
    refine lv_icmp_gt (tgt := 15) hx hb dX8_isWalkLength_8 (by decide) (fun c_8 => ?_) (fun c_8 => ?_)
    · have hM := if_t hM c_8
      refine lv_iconst (v := (nI 0)) hx hb dX8_isWalkLength_15 (by decide) ?_
      have hz : bq (nI 0) = true := by decide
      obtain rfl := Option.some.inj hM
      exact hfin 16 _ _ _ dX8_isWalkLength_16 hz hP hD hS
    · have hM := if_f hM c_8
      refine lv_iconst (v := (nI 1)) hx hb dX8_isWalkLength_11 (by decide) ?_
      refine lv_goto (tgt := 16) hx hb dX8_isWalkLength_12 (by decide) ?_
      have hz : bq (nI 1) = true := by decide
      obtain rfl := Option.some.inj hM
      exact hfin 16 _ _ _ dX8_isWalkLength_16 hz hP hD hS
noncomputable def f_X8_isPrimeLength (p1 : Int32) : Option (Int32) :=
  if p1 < (nI 1) then some (nI 0) else if (nI 5) < p1 then some (nI 0) else some (nI 1)
theorem yq_X8_isPrimeLength : yq yX8_isPrimeLength 1 := by unfold yq; decide +kernel
set_option maxHeartbeats 4000000 in
set_option maxRecDepth 100000 in
theorem c_X8_isPrimeLength (g : GG) (l : Launch) (p1 : Int32) {R : Int32} (hM : f_X8_isPrimeLength p1 = some R) : CT g l yX8_isPrimeLength cX8_isPrimeLength 1 (some .boolean) 0 0 [.int p1] [] [] (some (.int R)) := by
  refine ct_z (by decide +kernel) (Nat.le_of_ble_eq_true rfl) ?_
  intro p e s m args below meth c Q A ls cx hP hD hA hl hfin
  obtain ⟨hx, hb, hml, hown, hts, hK⟩ := id cx
  have hl : lv_has ls 1 [(0, .int p1)] := hl
  have hS : va_S A s.heap s.heap [] := va_S.rf
  refine lv_iload_n hx hb dX8_isPrimeLength_0 rfl (lv_at hl 0 rfl) ?_
  refine lv_iconst (v := (nI 1)) hx hb dX8_isPrimeLength_1 (by decide) ?_
  refine lv_icmp_lt (tgt := 14) hx hb dX8_isPrimeLength_2 (by decide) (fun c_2 => ?_) (fun c_2 => ?_)
  · have hM := if_t hM c_2
    refine lv_iconst (v := (nI 0)) hx hb dX8_isPrimeLength_14 (by decide) ?_
    have hz : bq (nI 0) = true := by decide
    obtain rfl := Option.some.inj hM
    exact hfin 15 _ _ _ dX8_isPrimeLength_15 hz hP hD hS
  · have hM := if_f hM c_2
    refine lv_iload_n hx hb dX8_isPrimeLength_5 rfl (lv_at hl 0 rfl) ?_
    refine lv_iconst (v := (nI 5)) hx hb dX8_isPrimeLength_6 (by decide) ?_
    refine lv_icmp_gt (tgt := 14) hx hb dX8_isPrimeLength_7 (by decide) (fun c_7 => ?_) (fun c_7 => ?_)
    · have hM := if_t hM c_7
      refine lv_iconst (v := (nI 0)) hx hb dX8_isPrimeLength_14 (by decide) ?_
      have hz : bq (nI 0) = true := by decide
      obtain rfl := Option.some.inj hM
      exact hfin 15 _ _ _ dX8_isPrimeLength_15 hz hP hD hS
    · have hM := if_f hM c_7
      refine lv_iconst (v := (nI 1)) hx hb dX8_isPrimeLength_10 (by decide) ?_
      refine lv_goto (tgt := 15) hx hb dX8_isPrimeLength_11 (by decide) ?_
      have hz : bq (nI 1) = true := by decide
      obtain rfl := Option.some.inj hM
      exact hfin 15 _ _ _ dX8_isPrimeLength_15 hz hP hD hS
noncomputable def f_X8_isIndex (p1 : Int32) (p2 : Int32) : Option (Int32) :=
  if p1 < 0 then some (nI 0) else if p2 < p1 then some (nI 0) else some (nI 1)
theorem yq_X8_isIndex : yq yX8_isIndex 2 := by unfold yq; decide +kernel
set_option maxHeartbeats 4000000 in
set_option maxRecDepth 100000 in
theorem c_X8_isIndex (g : GG) (l : Launch) (p1 : Int32) (p2 : Int32) {R : Int32} (hM : f_X8_isIndex p1 p2 = some R) : CT g l yX8_isIndex cX8_isIndex 2 (some .boolean) 0 0 [.int p1, .int p2] [] [] (some (.int R)) := by
  refine ct_z (by decide +kernel) (Nat.le_of_ble_eq_true rfl) ?_
  intro p e s m args below meth c Q A ls cx hP hD hA hl hfin
  obtain ⟨hx, hb, hml, hown, hts, hK⟩ := id cx
  have hl : lv_has ls 2 [(0, .int p1), (1, .int p2)] := hl
  have hS : va_S A s.heap s.heap [] := va_S.rf
  refine lv_iload_n hx hb dX8_isIndex_0 rfl (lv_at hl 0 rfl) ?_
  refine lv_if_lt (tgt := 13) hx hb dX8_isIndex_1 (by decide) (fun c_1 => ?_) (fun c_1 => ?_)
  · have hM := if_t hM c_1
    refine lv_iconst (v := (nI 0)) hx hb dX8_isIndex_13 (by decide) ?_
    have hz : bq (nI 0) = true := by decide
    obtain rfl := Option.some.inj hM
    exact hfin 14 _ _ _ dX8_isIndex_14 hz hP hD hS
  · have hM := if_f hM c_1
    refine lv_iload_n hx hb dX8_isIndex_4 rfl (lv_at hl 0 rfl) ?_
    refine lv_iload_n hx hb dX8_isIndex_5 rfl (lv_at hl 1 rfl) ?_
    refine lv_icmp_gt (tgt := 13) hx hb dX8_isIndex_6 (by decide) (fun c_6 => ?_) (fun c_6 => ?_)
    · have hM := if_t hM c_6
      refine lv_iconst (v := (nI 0)) hx hb dX8_isIndex_13 (by decide) ?_
      have hz : bq (nI 0) = true := by decide
      obtain rfl := Option.some.inj hM
      exact hfin 14 _ _ _ dX8_isIndex_14 hz hP hD hS
    · have hM := if_f hM c_6
      refine lv_iconst (v := (nI 1)) hx hb dX8_isIndex_9 (by decide) ?_
      refine lv_goto (tgt := 14) hx hb dX8_isIndex_10 (by decide) ?_
      have hz : bq (nI 1) = true := by decide
      obtain rfl := Option.some.inj hM
      exact hfin 14 _ _ _ dX8_isIndex_14 hz hP hD hS
noncomputable def b_X8_commonDivisor_2 (p1 : Int32) (p2 : Int32) : Int32 → Option ((Int32) ⊕ ((Int32) ⊕ (Unit))) := fun z_2 =>
  if z_2 ≤ (nI 1) then some (.inr (.inr ())) else gd (nz z_2) (if (p1 - p1 / z_2 * z_2) = 0 then gd (nz z_2) (if (p2 - p2 / z_2 * z_2) = 0 then some (.inr (.inl z_2)) else nm (z_2 + (nI 4294967295)) (fun (x_21 : Int32) => some (.inl x_21))) else nm (z_2 + (nI 4294967295)) (fun (x_21 : Int32) => some (.inl x_21)))
noncomputable def f_X8_commonDivisor (p1 : Int32) (p2 : Int32) : Option (Int32) :=
  bd (wh (b_X8_commonDivisor_2 p1 p2) p1) (fun (r_2 : (Int32) ⊕ (Unit)) => ex2 r_2 (fun (r_2_0 : Int32) => some r_2_0) (fun (r_2_1 : Unit) => some (nI 1)))
theorem yq_X8_commonDivisor : yq yX8_commonDivisor 2 := by unfold yq; decide +kernel
set_option maxHeartbeats 4000000 in
set_option maxRecDepth 100000 in
theorem c_X8_commonDivisor (g : GG) (l : Launch) (p1 : Int32) (p2 : Int32) {R : Int32} (hM : f_X8_commonDivisor p1 p2 = some R) : CT g l yX8_commonDivisor cX8_commonDivisor 3 (some .int) 0 0 [.int p1, .int p2] [] [] (some (.int R)) := by
  refine ct_i (by decide +kernel) (Nat.le_of_ble_eq_true rfl) ?_
  intro p e s m args below meth c Q A ls cx hP hD hA hl hfin
  obtain ⟨hx, hb, hml, hown, hts, hK⟩ := id cx
  have hl : lv_has ls 3 [(0, .int p1), (1, .int p2)] := hl
  have hS : va_S A s.heap s.heap [] := va_S.rf
  refine lv_iload_n hx hb dX8_commonDivisor_0 rfl (lv_at hl 0 rfl) ?_
  refine lv_istore_n (lv' := [(2, .int p1), (0, .int p1), (1, .int p2)]) hx hb dX8_commonDivisor_1 rfl hl (by decide) rfl (fun ls hl => ?_)
  obtain ⟨r_2, hw, hM⟩ := bd_some hM
  obtain ⟨n, hn⟩ := wh_some hw
  clear hw
  have hE_2_0 : ∀ (r_2_0 : Int32), r_2 = .inl r_2_0 → ∀ (H : Heap) (locs : List Loc) (ls : Array Slot), va_P (gD g) vwCl [] H → va_D A [] → va_S A s.heap H locs → lv_has ls 3 [(2, .int r_2_0)] → W p l e (rmv 0 0) s m args below meth c H locs 0 0 Q (F0 m 19 ls []) := by
    intro r_2_0 hr H locs ls hP hD hS hl
    have hM := ex2_0 hM hr
    refine lv_iload_n hx hb dX8_commonDivisor_19 rfl (lv_at hl 0 rfl) ?_
    obtain rfl := Option.some.inj hM
    exact hfin 20 _ _ _ dX8_commonDivisor_20 hP hD hS
  have hE_2_1 : ∀ (r_2_1 : Unit), r_2 = .inr r_2_1 → ∀ (H : Heap) (locs : List Loc) (ls : Array Slot), va_P (gD g) vwCl [] H → va_D A [] → va_S A s.heap H locs → lv_has ls 3 [] → W p l e (rmv 0 0) s m args below meth c H locs 0 0 Q (F0 m 27 ls []) := by
    intro r_2_1 hr H locs ls hP hD hS hl
    have hM := ex2_1 hM hr
    refine lv_iconst (v := (nI 1)) hx hb dX8_commonDivisor_27 (by decide) ?_
    obtain rfl := Option.some.inj hM
    exact hfin 28 _ _ _ dX8_commonDivisor_28 hP hD hS
  clear hM
  have hL_2 : ∀ (n : Nat) (z_2 : Int32), it (b_X8_commonDivisor_2 p1 p2) n z_2 = some r_2 → ∀ (H : Heap) (locs : List Loc) (ls : Array Slot), va_P (gD g) vwCl [] H → va_D A [] → va_S A s.heap H locs → lv_has ls 3 [(2, .int z_2), (0, .int p1), (1, .int p2)] → W p l e (rmv 0 0) s m args below meth c H locs 0 0 Q (F0 m 2 ls []) := by
    intro n
    induction n with
    | zero => intro z_2 hn; exact (it_zero hn).elim
    | succ n ih =>
      intro z_2 hn H locs ls hP hD hS hl
      obtain ⟨x, hM, hX⟩ := it_succ hn
      clear hn
      refine lv_iload_n hx hb dX8_commonDivisor_2 rfl (lv_at hl 0 rfl) ?_
      refine lv_iconst (v := (nI 1)) hx hb dX8_commonDivisor_3 (by decide) ?_
      refine lv_icmp_le (tgt := 27) hx hb dX8_commonDivisor_4 (by decide) (fun c_4 => ?_) (fun c_4 => ?_)
      · have hM := if_t hM c_4
        obtain rfl := Option.some.inj hM
        obtain rfl : _ = r_2 := hX
        exact hE_2_1 _ rfl _ _ _ hP hD hS (lv_sub hl [] rfl)
      · have hM := if_f hM c_4
        refine lv_iload_n hx hb dX8_commonDivisor_7 rfl (lv_at hl 1 rfl) ?_
        refine lv_iload_n hx hb dX8_commonDivisor_8 rfl (lv_at hl 0 rfl) ?_
        obtain ⟨g_9, hM⟩ := gd_some hM
        refine lv_irem hx hb dX8_commonDivisor_9 (nz_ne g_9) ?_
        refine lv_if_ne (tgt := 21) hx hb dX8_commonDivisor_10 (by decide) (fun c_10 => ?_) (fun c_10 => ?_)
        · have hM := if_f hM c_10
          obtain ⟨x_21, ex_21⟩ : ∃ q : Int32, q = z_2 + (nI 4294967295) := ⟨_, rfl⟩
          have hM := nm_some hM x_21 ex_21
          refine lv_iinc (v := x_21) (lv' := [(2, .int x_21), (0, .int p1), (1, .int p2)]) hx hb dX8_commonDivisor_21 hl (k := 0) rfl ((congrArg (fun q => z_2 + q) (show Int32.ofInt (-1) = (nI 4294967295) by decide)).trans ex_21.symm) (by decide) rfl (fun ls hl => ?_)
          refine lv_goto (tgt := 2) hx hb dX8_commonDivisor_24 (by decide) ?_
          obtain rfl := Option.some.inj hM
          exact ih _ hX _ _ _ hP hD hS (lv_sub hl [0, 1, 2] rfl)
        · have hM := if_t hM c_10
          refine lv_iload_n hx hb dX8_commonDivisor_13 rfl (lv_at hl 2 rfl) ?_
          refine lv_iload_n hx hb dX8_commonDivisor_14 rfl (lv_at hl 0 rfl) ?_
          obtain ⟨g_15, hM⟩ := gd_some hM
          refine lv_irem hx hb dX8_commonDivisor_15 (nz_ne g_15) ?_
          refine lv_if_ne (tgt := 21) hx hb dX8_commonDivisor_16 (by decide) (fun c_16 => ?_) (fun c_16 => ?_)
          · have hM := if_f hM c_16
            obtain ⟨x_21, ex_21⟩ : ∃ q : Int32, q = z_2 + (nI 4294967295) := ⟨_, rfl⟩
            have hM := nm_some hM x_21 ex_21
            refine lv_iinc (v := x_21) (lv' := [(2, .int x_21), (0, .int p1), (1, .int p2)]) hx hb dX8_commonDivisor_21 hl (k := 0) rfl ((congrArg (fun q => z_2 + q) (show Int32.ofInt (-1) = (nI 4294967295) by decide)).trans ex_21.symm) (by decide) rfl (fun ls hl => ?_)
            refine lv_goto (tgt := 2) hx hb dX8_commonDivisor_24 (by decide) ?_
            obtain rfl := Option.some.inj hM
            exact ih _ hX _ _ _ hP hD hS (lv_sub hl [0, 1, 2] rfl)
          · have hM := if_t hM c_16
            obtain rfl := Option.some.inj hM
            obtain rfl : _ = r_2 := hX
            exact hE_2_0 _ rfl _ _ _ hP hD hS (lv_sub hl [0] rfl)
  exact hL_2 n _ hn _ _ _ hP hD hS (lv_sub hl [0, 1, 2] rfl)
noncomputable def f_X8_walks (p1 : Int32) (t_graph_vertices : Int32) (t_graph_edges : Int32) (a_t_graph_firsts : Nat → Int32) (a_t_graph_seconds : Nat → Int32) (a_t_graph_signs : Nat → Int32) (a_t_counter_closed : Nat → Int64) (a_t_counter_reached : Nat → Int64) (a_t_counter_arrived : Nat → Int64) : Option (Int64 × (Nat → Int64) × (Nat → Int64) × (Nat → Int64)) :=
  bd (f_X8_isWalkLength p1) (fun (q_1 : Int32) => if q_1 = 0 then some ((-9223372036854775808 : Int64), a_t_counter_closed, a_t_counter_reached, a_t_counter_arrived) else bd (f_X7_countClosed a_t_counter_closed a_t_counter_reached a_t_counter_arrived t_graph_vertices t_graph_edges a_t_graph_firsts a_t_graph_seconds a_t_graph_signs) (fun (q_19 : (Nat → Int64) × (Nat → Int64) × (Nat → Int64)) => gd (inb p1 19) (some (q_19.1 p1.toNatClampNeg, q_19.1, q_19.2.1, q_19.2.2))))
theorem yq_X8_walks : yq yX8_walks 1 := by unfold yq; decide +kernel
set_option maxHeartbeats 4000000 in
set_option maxRecDepth 100000 in
theorem c_X8_walks (g : GG) (l : Launch) (h_t : Nat) (h_t_graph : Nat) (h_t_draft : Nat) (h_t_history : Nat) (h_t_text : Nat) (h_t_grouping : Nat) (h_t_counter : Nat) (h_t_search : Nat) (h_t_edgePolynomial : Nat) (h_t_vertexPolynomial : Nat) (h_t_graph_firsts : Nat) (h_t_graph_seconds : Nat) (h_t_graph_signs : Nat) (h_t_counter_closed : Nat) (h_t_counter_closedSigned : Nat) (h_t_counter_primitive : Nat) (h_t_counter_primitiveSigned : Nat) (h_t_counter_reached : Nat) (h_t_counter_arrived : Nat) (p1 : Int32) (t_graph_vertices : Int32) (t_graph_edges : Int32) (a_t_graph_firsts : Nat → Int32) (a_t_graph_seconds : Nat → Int32) (a_t_graph_signs : Nat → Int32) (a_t_counter_closed : Nat → Int64) (a_t_counter_reached : Nat → Int64) (a_t_counter_arrived : Nat → Int64) {R : Int64 × (Nat → Int64) × (Nat → Int64) × (Nat → Int64)} (hM : f_X8_walks p1 t_graph_vertices t_graph_edges a_t_graph_firsts a_t_graph_seconds a_t_graph_signs a_t_counter_closed a_t_counter_reached a_t_counter_arrived = some R) : CT g l yX8_walks cX8_walks 2 (some .long) 4 102 [.ref h_t, .int p1] [ob h_t 8 [.ref h_t_graph, .ref h_t_draft, .ref h_t_history, .ref h_t_text, .ref h_t_grouping, .ref h_t_counter, .ref h_t_search, .ref h_t_edgePolynomial, .ref h_t_vertexPolynomial], ob h_t_graph 2 [.int t_graph_vertices, .int t_graph_edges, .ref h_t_graph_firsts, .ref h_t_graph_seconds, .ref h_t_graph_signs], aI g h_t_graph_firsts 9 a_t_graph_firsts, aI g h_t_graph_seconds 9 a_t_graph_seconds, aI g h_t_graph_signs 9 a_t_graph_signs, ob h_t_counter 7 [.ref h_t_counter_closed, .ref h_t_counter_closedSigned, .ref h_t_counter_primitive, .ref h_t_counter_primitiveSigned, .ref h_t_counter_reached, .ref h_t_counter_arrived], aJ g h_t_counter_closed 19 a_t_counter_closed, aJ g h_t_counter_reached 18 a_t_counter_reached, aJ g h_t_counter_arrived 6 a_t_counter_arrived] [ob h_t 8 [.ref h_t_graph, .ref h_t_draft, .ref h_t_history, .ref h_t_text, .ref h_t_grouping, .ref h_t_counter, .ref h_t_search, .ref h_t_edgePolynomial, .ref h_t_vertexPolynomial], ob h_t_graph 2 [.int t_graph_vertices, .int t_graph_edges, .ref h_t_graph_firsts, .ref h_t_graph_seconds, .ref h_t_graph_signs], aI g h_t_graph_firsts 9 a_t_graph_firsts, aI g h_t_graph_seconds 9 a_t_graph_seconds, aI g h_t_graph_signs 9 a_t_graph_signs, ob h_t_counter 7 [.ref h_t_counter_closed, .ref h_t_counter_closedSigned, .ref h_t_counter_primitive, .ref h_t_counter_primitiveSigned, .ref h_t_counter_reached, .ref h_t_counter_arrived], aJ g h_t_counter_closed 19 R.2.1, aJ g h_t_counter_reached 18 R.2.2.1, aJ g h_t_counter_arrived 6 R.2.2.2] (some (.long R.1)) := by
  refine ct_l (by decide +kernel) (Nat.le_of_ble_eq_true rfl) ?_
  intro p e s m args below meth c Q A ls cx hP hD hA hl hfin
  obtain ⟨hx, hb, hml, hown, hts, hK⟩ := id cx
  have hl : lv_has ls 2 [(0, .ref h_t), (1, .int p1)] := hl
  have hS : va_S A s.heap s.heap [] := va_S.rf
  refine lv_iload_n hx hb dX8_walks_0 rfl (lv_at hl 1 rfl) ?_
  obtain ⟨q_1, hc_1, hM⟩ := bd_some hM
  refine w_callS cx hP hD hS hA (c_X8_isWalkLength g l p1 hc_1) [] rfl (by decide) rfl [ob h_t 8 [.ref h_t_graph, .ref h_t_draft, .ref h_t_history, .ref h_t_text, .ref h_t_grouping, .ref h_t_counter, .ref h_t_search, .ref h_t_edgePolynomial, .ref h_t_vertexPolynomial], ob h_t_graph 2 [.int t_graph_vertices, .int t_graph_edges, .ref h_t_graph_firsts, .ref h_t_graph_seconds, .ref h_t_graph_signs], aI g h_t_graph_firsts 9 a_t_graph_firsts, aI g h_t_graph_seconds 9 a_t_graph_seconds, aI g h_t_graph_signs 9 a_t_graph_signs, ob h_t_counter 7 [.ref h_t_counter_closed, .ref h_t_counter_closedSigned, .ref h_t_counter_primitive, .ref h_t_counter_primitiveSigned, .ref h_t_counter_reached, .ref h_t_counter_arrived], aJ g h_t_counter_closed 19 a_t_counter_closed, aJ g h_t_counter_reached 18 a_t_counter_reached, aJ g h_t_counter_arrived 6 a_t_counter_arrived] rfl yq_X8_isWalkLength m_363 m_364 m_17 m_365 ⟨Nat.le_of_ble_eq_true rfl, Nat.le_of_ble_eq_true rfl⟩ rfl rfl hl.1 (Nat.le_of_ble_eq_true rfl) dX8_walks_1 ⟨Nat.le_refl 0, Nat.le_refl 0⟩ rfl (fun H locs hP hD hS => ?_)
  refine lv_if_ne (tgt := 11) hx hb dX8_walks_4 (by decide) (fun c_4 => ?_) (fun c_4 => ?_)
  · have hM := if_f hM c_4
    refine lv_aload_n hx hb dX8_walks_11 rfl (lv_at hl 0 rfl) ?_
    refine w_get cx hP 0 8 5 rfl rfl (by decide) m_208 rfl rfl dX8_walks_12 ?_
    refine lv_aload_n hx hb dX8_walks_15 rfl (lv_at hl 0 rfl) ?_
    refine w_get cx hP 0 8 0 rfl rfl (by decide) m_203 rfl rfl dX8_walks_16 ?_
    obtain ⟨q_19, hc_19, hM⟩ := bd_some hM
    refine w_callV cx hP hD hS hA (c_X7_countClosed g l h_t_counter h_t_counter_closed h_t_counter_closedSigned h_t_counter_primitive h_t_counter_primitiveSigned h_t_counter_reached h_t_counter_arrived h_t_graph h_t_graph_firsts h_t_graph_seconds h_t_graph_signs a_t_counter_closed a_t_counter_reached a_t_counter_arrived t_graph_vertices t_graph_edges a_t_graph_firsts a_t_graph_seconds a_t_graph_signs hc_19) [5, 6, 7, 8, 1, 2, 3, 4] rfl (by decide) rfl [ob h_t 8 [.ref h_t_graph, .ref h_t_draft, .ref h_t_history, .ref h_t_text, .ref h_t_grouping, .ref h_t_counter, .ref h_t_search, .ref h_t_edgePolynomial, .ref h_t_vertexPolynomial], ob h_t_graph 2 [.int t_graph_vertices, .int t_graph_edges, .ref h_t_graph_firsts, .ref h_t_graph_seconds, .ref h_t_graph_signs], aI g h_t_graph_firsts 9 a_t_graph_firsts, aI g h_t_graph_seconds 9 a_t_graph_seconds, aI g h_t_graph_signs 9 a_t_graph_signs, ob h_t_counter 7 [.ref h_t_counter_closed, .ref h_t_counter_closedSigned, .ref h_t_counter_primitive, .ref h_t_counter_primitiveSigned, .ref h_t_counter_reached, .ref h_t_counter_arrived], aJ g h_t_counter_closed 19 q_19.1, aJ g h_t_counter_reached 18 q_19.2.1, aJ g h_t_counter_arrived 6 q_19.2.2] rfl 5 7 rfl rfl yq_X7_countClosed rfl m_392 m_393 m_394 m_22 m_395 ⟨Nat.le_of_ble_eq_true rfl, Nat.le_of_ble_eq_true rfl⟩ rfl rfl hl.1 (Nat.le_of_ble_eq_true rfl) dX8_walks_19 ⟨Nat.le_refl 0, Nat.le_refl 0⟩ rfl (fun H locs hP hD hS => ?_)
    refine lv_aload_n hx hb dX8_walks_22 rfl (lv_at hl 0 rfl) ?_
    refine w_get cx hP 0 8 5 rfl rfl (by decide) m_208 rfl rfl dX8_walks_23 ?_
    refine w_getN cx hP 5 7 0 rfl rfl (by decide) n_136 rfl rfl dX8_walks_26 ?_
    refine lv_iload_n hx hb dX8_walks_29 rfl (lv_at hl 1 rfl) ?_
    obtain ⟨g_30, hM⟩ := gd_some hM
    refine w_lald cx hP 6 rfl g_30 dX8_walks_30 ?_
    obtain rfl := Option.some.inj hM
    exact hfin 31 _ _ _ dX8_walks_31 hP hD hS
  · have hM := if_t hM c_4
    refine lv_ldc2 hx hb hown (hts _ m_366) dX8_walks_7 ?_
    obtain rfl := Option.some.inj hM
    exact hfin 10 _ _ _ dX8_walks_10 hP hD hS
noncomputable def f_X8_signedWalks (p1 : Int32) (t_graph_vertices : Int32) (t_graph_edges : Int32) (a_t_graph_firsts : Nat → Int32) (a_t_graph_seconds : Nat → Int32) (a_t_graph_signs : Nat → Int32) (a_t_counter_closedSigned : Nat → Int64) (a_t_counter_reached : Nat → Int64) (a_t_counter_arrived : Nat → Int64) : Option (Int64 × (Nat → Int64) × (Nat → Int64) × (Nat → Int64)) :=
  bd (f_X8_isWalkLength p1) (fun (q_1 : Int32) => if q_1 = 0 then some ((-9223372036854775808 : Int64), a_t_counter_closedSigned, a_t_counter_reached, a_t_counter_arrived) else bd (f_X7_countClosedSigned a_t_counter_closedSigned a_t_counter_reached a_t_counter_arrived t_graph_vertices t_graph_edges a_t_graph_firsts a_t_graph_seconds a_t_graph_signs) (fun (q_19 : (Nat → Int64) × (Nat → Int64) × (Nat → Int64)) => gd (inb p1 19) (some (q_19.1 p1.toNatClampNeg, q_19.1, q_19.2.1, q_19.2.2))))
theorem yq_X8_signedWalks : yq yX8_signedWalks 1 := by unfold yq; decide +kernel
set_option maxHeartbeats 4000000 in
set_option maxRecDepth 100000 in
theorem c_X8_signedWalks (g : GG) (l : Launch) (h_t : Nat) (h_t_graph : Nat) (h_t_draft : Nat) (h_t_history : Nat) (h_t_text : Nat) (h_t_grouping : Nat) (h_t_counter : Nat) (h_t_search : Nat) (h_t_edgePolynomial : Nat) (h_t_vertexPolynomial : Nat) (h_t_graph_firsts : Nat) (h_t_graph_seconds : Nat) (h_t_graph_signs : Nat) (h_t_counter_closed : Nat) (h_t_counter_closedSigned : Nat) (h_t_counter_primitive : Nat) (h_t_counter_primitiveSigned : Nat) (h_t_counter_reached : Nat) (h_t_counter_arrived : Nat) (p1 : Int32) (t_graph_vertices : Int32) (t_graph_edges : Int32) (a_t_graph_firsts : Nat → Int32) (a_t_graph_seconds : Nat → Int32) (a_t_graph_signs : Nat → Int32) (a_t_counter_closedSigned : Nat → Int64) (a_t_counter_reached : Nat → Int64) (a_t_counter_arrived : Nat → Int64) {R : Int64 × (Nat → Int64) × (Nat → Int64) × (Nat → Int64)} (hM : f_X8_signedWalks p1 t_graph_vertices t_graph_edges a_t_graph_firsts a_t_graph_seconds a_t_graph_signs a_t_counter_closedSigned a_t_counter_reached a_t_counter_arrived = some R) : CT g l yX8_signedWalks cX8_signedWalks 2 (some .long) 4 102 [.ref h_t, .int p1] [ob h_t 8 [.ref h_t_graph, .ref h_t_draft, .ref h_t_history, .ref h_t_text, .ref h_t_grouping, .ref h_t_counter, .ref h_t_search, .ref h_t_edgePolynomial, .ref h_t_vertexPolynomial], ob h_t_graph 2 [.int t_graph_vertices, .int t_graph_edges, .ref h_t_graph_firsts, .ref h_t_graph_seconds, .ref h_t_graph_signs], aI g h_t_graph_firsts 9 a_t_graph_firsts, aI g h_t_graph_seconds 9 a_t_graph_seconds, aI g h_t_graph_signs 9 a_t_graph_signs, ob h_t_counter 7 [.ref h_t_counter_closed, .ref h_t_counter_closedSigned, .ref h_t_counter_primitive, .ref h_t_counter_primitiveSigned, .ref h_t_counter_reached, .ref h_t_counter_arrived], aJ g h_t_counter_closedSigned 19 a_t_counter_closedSigned, aJ g h_t_counter_reached 18 a_t_counter_reached, aJ g h_t_counter_arrived 6 a_t_counter_arrived] [ob h_t 8 [.ref h_t_graph, .ref h_t_draft, .ref h_t_history, .ref h_t_text, .ref h_t_grouping, .ref h_t_counter, .ref h_t_search, .ref h_t_edgePolynomial, .ref h_t_vertexPolynomial], ob h_t_graph 2 [.int t_graph_vertices, .int t_graph_edges, .ref h_t_graph_firsts, .ref h_t_graph_seconds, .ref h_t_graph_signs], aI g h_t_graph_firsts 9 a_t_graph_firsts, aI g h_t_graph_seconds 9 a_t_graph_seconds, aI g h_t_graph_signs 9 a_t_graph_signs, ob h_t_counter 7 [.ref h_t_counter_closed, .ref h_t_counter_closedSigned, .ref h_t_counter_primitive, .ref h_t_counter_primitiveSigned, .ref h_t_counter_reached, .ref h_t_counter_arrived], aJ g h_t_counter_closedSigned 19 R.2.1, aJ g h_t_counter_reached 18 R.2.2.1, aJ g h_t_counter_arrived 6 R.2.2.2] (some (.long R.1)) := by
  refine ct_l (by decide +kernel) (Nat.le_of_ble_eq_true rfl) ?_
  intro p e s m args below meth c Q A ls cx hP hD hA hl hfin
  obtain ⟨hx, hb, hml, hown, hts, hK⟩ := id cx
  have hl : lv_has ls 2 [(0, .ref h_t), (1, .int p1)] := hl
  have hS : va_S A s.heap s.heap [] := va_S.rf
  refine lv_iload_n hx hb dX8_signedWalks_0 rfl (lv_at hl 1 rfl) ?_
  obtain ⟨q_1, hc_1, hM⟩ := bd_some hM
  refine w_callS cx hP hD hS hA (c_X8_isWalkLength g l p1 hc_1) [] rfl (by decide) rfl [ob h_t 8 [.ref h_t_graph, .ref h_t_draft, .ref h_t_history, .ref h_t_text, .ref h_t_grouping, .ref h_t_counter, .ref h_t_search, .ref h_t_edgePolynomial, .ref h_t_vertexPolynomial], ob h_t_graph 2 [.int t_graph_vertices, .int t_graph_edges, .ref h_t_graph_firsts, .ref h_t_graph_seconds, .ref h_t_graph_signs], aI g h_t_graph_firsts 9 a_t_graph_firsts, aI g h_t_graph_seconds 9 a_t_graph_seconds, aI g h_t_graph_signs 9 a_t_graph_signs, ob h_t_counter 7 [.ref h_t_counter_closed, .ref h_t_counter_closedSigned, .ref h_t_counter_primitive, .ref h_t_counter_primitiveSigned, .ref h_t_counter_reached, .ref h_t_counter_arrived], aJ g h_t_counter_closedSigned 19 a_t_counter_closedSigned, aJ g h_t_counter_reached 18 a_t_counter_reached, aJ g h_t_counter_arrived 6 a_t_counter_arrived] rfl yq_X8_isWalkLength m_363 m_364 m_17 m_365 ⟨Nat.le_of_ble_eq_true rfl, Nat.le_of_ble_eq_true rfl⟩ rfl rfl hl.1 (Nat.le_of_ble_eq_true rfl) dX8_signedWalks_1 ⟨Nat.le_refl 0, Nat.le_refl 0⟩ rfl (fun H locs hP hD hS => ?_)
  refine lv_if_ne (tgt := 11) hx hb dX8_signedWalks_4 (by decide) (fun c_4 => ?_) (fun c_4 => ?_)
  · have hM := if_f hM c_4
    refine lv_aload_n hx hb dX8_signedWalks_11 rfl (lv_at hl 0 rfl) ?_
    refine w_get cx hP 0 8 5 rfl rfl (by decide) m_208 rfl rfl dX8_signedWalks_12 ?_
    refine lv_aload_n hx hb dX8_signedWalks_15 rfl (lv_at hl 0 rfl) ?_
    refine w_get cx hP 0 8 0 rfl rfl (by decide) m_203 rfl rfl dX8_signedWalks_16 ?_
    obtain ⟨q_19, hc_19, hM⟩ := bd_some hM
    refine w_callV cx hP hD hS hA (c_X7_countClosedSigned g l h_t_counter h_t_counter_closed h_t_counter_closedSigned h_t_counter_primitive h_t_counter_primitiveSigned h_t_counter_reached h_t_counter_arrived h_t_graph h_t_graph_firsts h_t_graph_seconds h_t_graph_signs a_t_counter_closedSigned a_t_counter_reached a_t_counter_arrived t_graph_vertices t_graph_edges a_t_graph_firsts a_t_graph_seconds a_t_graph_signs hc_19) [5, 6, 7, 8, 1, 2, 3, 4] rfl (by decide) rfl [ob h_t 8 [.ref h_t_graph, .ref h_t_draft, .ref h_t_history, .ref h_t_text, .ref h_t_grouping, .ref h_t_counter, .ref h_t_search, .ref h_t_edgePolynomial, .ref h_t_vertexPolynomial], ob h_t_graph 2 [.int t_graph_vertices, .int t_graph_edges, .ref h_t_graph_firsts, .ref h_t_graph_seconds, .ref h_t_graph_signs], aI g h_t_graph_firsts 9 a_t_graph_firsts, aI g h_t_graph_seconds 9 a_t_graph_seconds, aI g h_t_graph_signs 9 a_t_graph_signs, ob h_t_counter 7 [.ref h_t_counter_closed, .ref h_t_counter_closedSigned, .ref h_t_counter_primitive, .ref h_t_counter_primitiveSigned, .ref h_t_counter_reached, .ref h_t_counter_arrived], aJ g h_t_counter_closedSigned 19 q_19.1, aJ g h_t_counter_reached 18 q_19.2.1, aJ g h_t_counter_arrived 6 q_19.2.2] rfl 5 7 rfl rfl yq_X7_countClosedSigned rfl m_367 m_368 m_369 m_22 m_370 ⟨Nat.le_of_ble_eq_true rfl, Nat.le_of_ble_eq_true rfl⟩ rfl rfl hl.1 (Nat.le_of_ble_eq_true rfl) dX8_signedWalks_19 ⟨Nat.le_refl 0, Nat.le_refl 0⟩ rfl (fun H locs hP hD hS => ?_)
    refine lv_aload_n hx hb dX8_signedWalks_22 rfl (lv_at hl 0 rfl) ?_
    refine w_get cx hP 0 8 5 rfl rfl (by decide) m_208 rfl rfl dX8_signedWalks_23 ?_
    refine w_getN cx hP 5 7 1 rfl rfl (by decide) n_138 rfl rfl dX8_signedWalks_26 ?_
    refine lv_iload_n hx hb dX8_signedWalks_29 rfl (lv_at hl 1 rfl) ?_
    obtain ⟨g_30, hM⟩ := gd_some hM
    refine w_lald cx hP 6 rfl g_30 dX8_signedWalks_30 ?_
    obtain rfl := Option.some.inj hM
    exact hfin 31 _ _ _ dX8_signedWalks_31 hP hD hS
  · have hM := if_t hM c_4
    refine lv_ldc2 hx hb hown (hts _ m_366) dX8_signedWalks_7 ?_
    obtain rfl := Option.some.inj hM
    exact hfin 10 _ _ _ dX8_signedWalks_10 hP hD hS
noncomputable def f_X8_coverWalks (p1 : Int32) (t_graph_vertices : Int32) (t_graph_edges : Int32) (a_t_graph_firsts : Nat → Int32) (a_t_graph_seconds : Nat → Int32) (a_t_graph_signs : Nat → Int32) (a_t_counter_closed : Nat → Int64) (a_t_counter_closedSigned : Nat → Int64) (a_t_counter_reached : Nat → Int64) (a_t_counter_arrived : Nat → Int64) : Option (Int64 × (Nat → Int64) × (Nat → Int64) × (Nat → Int64) × (Nat → Int64)) :=
  bd (f_X8_isWalkLength p1) (fun (q_1 : Int32) => if q_1 = 0 then some ((-9223372036854775808 : Int64), a_t_counter_closed, a_t_counter_closedSigned, a_t_counter_reached, a_t_counter_arrived) else bd (f_X7_countClosed a_t_counter_closed a_t_counter_reached a_t_counter_arrived t_graph_vertices t_graph_edges a_t_graph_firsts a_t_graph_seconds a_t_graph_signs) (fun (q_19 : (Nat → Int64) × (Nat → Int64) × (Nat → Int64)) => bd (f_X7_countClosedSigned a_t_counter_closedSigned q_19.2.1 q_19.2.2 t_graph_vertices t_graph_edges a_t_graph_firsts a_t_graph_seconds a_t_graph_signs) (fun (q_30 : (Nat → Int64) × (Nat → Int64) × (Nat → Int64)) => gd (inb p1 19) (gd (inb p1 19) (some ((q_19.1 p1.toNatClampNeg) + (q_30.1 p1.toNatClampNeg), q_19.1, q_30.1, q_30.2.1, q_30.2.2))))))
theorem yq_X8_coverWalks : yq yX8_coverWalks 1 := by unfold yq; decide +kernel
set_option maxHeartbeats 4000000 in
set_option maxRecDepth 100000 in
theorem c_X8_coverWalks (g : GG) (l : Launch) (h_t : Nat) (h_t_graph : Nat) (h_t_draft : Nat) (h_t_history : Nat) (h_t_text : Nat) (h_t_grouping : Nat) (h_t_counter : Nat) (h_t_search : Nat) (h_t_edgePolynomial : Nat) (h_t_vertexPolynomial : Nat) (h_t_graph_firsts : Nat) (h_t_graph_seconds : Nat) (h_t_graph_signs : Nat) (h_t_counter_closed : Nat) (h_t_counter_closedSigned : Nat) (h_t_counter_primitive : Nat) (h_t_counter_primitiveSigned : Nat) (h_t_counter_reached : Nat) (h_t_counter_arrived : Nat) (p1 : Int32) (t_graph_vertices : Int32) (t_graph_edges : Int32) (a_t_graph_firsts : Nat → Int32) (a_t_graph_seconds : Nat → Int32) (a_t_graph_signs : Nat → Int32) (a_t_counter_closed : Nat → Int64) (a_t_counter_closedSigned : Nat → Int64) (a_t_counter_reached : Nat → Int64) (a_t_counter_arrived : Nat → Int64) {R : Int64 × (Nat → Int64) × (Nat → Int64) × (Nat → Int64) × (Nat → Int64)} (hM : f_X8_coverWalks p1 t_graph_vertices t_graph_edges a_t_graph_firsts a_t_graph_seconds a_t_graph_signs a_t_counter_closed a_t_counter_closedSigned a_t_counter_reached a_t_counter_arrived = some R) : CT g l yX8_coverWalks cX8_coverWalks 2 (some .long) 4 102 [.ref h_t, .int p1] [ob h_t 8 [.ref h_t_graph, .ref h_t_draft, .ref h_t_history, .ref h_t_text, .ref h_t_grouping, .ref h_t_counter, .ref h_t_search, .ref h_t_edgePolynomial, .ref h_t_vertexPolynomial], ob h_t_graph 2 [.int t_graph_vertices, .int t_graph_edges, .ref h_t_graph_firsts, .ref h_t_graph_seconds, .ref h_t_graph_signs], aI g h_t_graph_firsts 9 a_t_graph_firsts, aI g h_t_graph_seconds 9 a_t_graph_seconds, aI g h_t_graph_signs 9 a_t_graph_signs, ob h_t_counter 7 [.ref h_t_counter_closed, .ref h_t_counter_closedSigned, .ref h_t_counter_primitive, .ref h_t_counter_primitiveSigned, .ref h_t_counter_reached, .ref h_t_counter_arrived], aJ g h_t_counter_closed 19 a_t_counter_closed, aJ g h_t_counter_closedSigned 19 a_t_counter_closedSigned, aJ g h_t_counter_reached 18 a_t_counter_reached, aJ g h_t_counter_arrived 6 a_t_counter_arrived] [ob h_t 8 [.ref h_t_graph, .ref h_t_draft, .ref h_t_history, .ref h_t_text, .ref h_t_grouping, .ref h_t_counter, .ref h_t_search, .ref h_t_edgePolynomial, .ref h_t_vertexPolynomial], ob h_t_graph 2 [.int t_graph_vertices, .int t_graph_edges, .ref h_t_graph_firsts, .ref h_t_graph_seconds, .ref h_t_graph_signs], aI g h_t_graph_firsts 9 a_t_graph_firsts, aI g h_t_graph_seconds 9 a_t_graph_seconds, aI g h_t_graph_signs 9 a_t_graph_signs, ob h_t_counter 7 [.ref h_t_counter_closed, .ref h_t_counter_closedSigned, .ref h_t_counter_primitive, .ref h_t_counter_primitiveSigned, .ref h_t_counter_reached, .ref h_t_counter_arrived], aJ g h_t_counter_closed 19 R.2.1, aJ g h_t_counter_closedSigned 19 R.2.2.1, aJ g h_t_counter_reached 18 R.2.2.2.1, aJ g h_t_counter_arrived 6 R.2.2.2.2] (some (.long R.1)) := by
  refine ct_l (by decide +kernel) (Nat.le_of_ble_eq_true rfl) ?_
  intro p e s m args below meth c Q A ls cx hP hD hA hl hfin
  obtain ⟨hx, hb, hml, hown, hts, hK⟩ := id cx
  have hl : lv_has ls 2 [(0, .ref h_t), (1, .int p1)] := hl
  have hS : va_S A s.heap s.heap [] := va_S.rf
  refine lv_iload_n hx hb dX8_coverWalks_0 rfl (lv_at hl 1 rfl) ?_
  obtain ⟨q_1, hc_1, hM⟩ := bd_some hM
  refine w_callS cx hP hD hS hA (c_X8_isWalkLength g l p1 hc_1) [] rfl (by decide) rfl [ob h_t 8 [.ref h_t_graph, .ref h_t_draft, .ref h_t_history, .ref h_t_text, .ref h_t_grouping, .ref h_t_counter, .ref h_t_search, .ref h_t_edgePolynomial, .ref h_t_vertexPolynomial], ob h_t_graph 2 [.int t_graph_vertices, .int t_graph_edges, .ref h_t_graph_firsts, .ref h_t_graph_seconds, .ref h_t_graph_signs], aI g h_t_graph_firsts 9 a_t_graph_firsts, aI g h_t_graph_seconds 9 a_t_graph_seconds, aI g h_t_graph_signs 9 a_t_graph_signs, ob h_t_counter 7 [.ref h_t_counter_closed, .ref h_t_counter_closedSigned, .ref h_t_counter_primitive, .ref h_t_counter_primitiveSigned, .ref h_t_counter_reached, .ref h_t_counter_arrived], aJ g h_t_counter_closed 19 a_t_counter_closed, aJ g h_t_counter_closedSigned 19 a_t_counter_closedSigned, aJ g h_t_counter_reached 18 a_t_counter_reached, aJ g h_t_counter_arrived 6 a_t_counter_arrived] rfl yq_X8_isWalkLength m_363 m_364 m_17 m_365 ⟨Nat.le_of_ble_eq_true rfl, Nat.le_of_ble_eq_true rfl⟩ rfl rfl hl.1 (Nat.le_of_ble_eq_true rfl) dX8_coverWalks_1 ⟨Nat.le_refl 0, Nat.le_refl 0⟩ rfl (fun H locs hP hD hS => ?_)
  refine lv_if_ne (tgt := 11) hx hb dX8_coverWalks_4 (by decide) (fun c_4 => ?_) (fun c_4 => ?_)
  · have hM := if_f hM c_4
    refine lv_aload_n hx hb dX8_coverWalks_11 rfl (lv_at hl 0 rfl) ?_
    refine w_get cx hP 0 8 5 rfl rfl (by decide) m_208 rfl rfl dX8_coverWalks_12 ?_
    refine lv_aload_n hx hb dX8_coverWalks_15 rfl (lv_at hl 0 rfl) ?_
    refine w_get cx hP 0 8 0 rfl rfl (by decide) m_203 rfl rfl dX8_coverWalks_16 ?_
    obtain ⟨q_19, hc_19, hM⟩ := bd_some hM
    refine w_callV cx hP hD hS hA (c_X7_countClosed g l h_t_counter h_t_counter_closed h_t_counter_closedSigned h_t_counter_primitive h_t_counter_primitiveSigned h_t_counter_reached h_t_counter_arrived h_t_graph h_t_graph_firsts h_t_graph_seconds h_t_graph_signs a_t_counter_closed a_t_counter_reached a_t_counter_arrived t_graph_vertices t_graph_edges a_t_graph_firsts a_t_graph_seconds a_t_graph_signs hc_19) [5, 6, 8, 9, 1, 2, 3, 4] rfl (by decide) rfl [ob h_t 8 [.ref h_t_graph, .ref h_t_draft, .ref h_t_history, .ref h_t_text, .ref h_t_grouping, .ref h_t_counter, .ref h_t_search, .ref h_t_edgePolynomial, .ref h_t_vertexPolynomial], ob h_t_graph 2 [.int t_graph_vertices, .int t_graph_edges, .ref h_t_graph_firsts, .ref h_t_graph_seconds, .ref h_t_graph_signs], aI g h_t_graph_firsts 9 a_t_graph_firsts, aI g h_t_graph_seconds 9 a_t_graph_seconds, aI g h_t_graph_signs 9 a_t_graph_signs, ob h_t_counter 7 [.ref h_t_counter_closed, .ref h_t_counter_closedSigned, .ref h_t_counter_primitive, .ref h_t_counter_primitiveSigned, .ref h_t_counter_reached, .ref h_t_counter_arrived], aJ g h_t_counter_closed 19 q_19.1, aJ g h_t_counter_closedSigned 19 a_t_counter_closedSigned, aJ g h_t_counter_reached 18 q_19.2.1, aJ g h_t_counter_arrived 6 q_19.2.2] rfl 5 7 rfl rfl yq_X7_countClosed rfl m_392 m_393 m_394 m_22 m_395 ⟨Nat.le_of_ble_eq_true rfl, Nat.le_of_ble_eq_true rfl⟩ rfl rfl hl.1 (Nat.le_of_ble_eq_true rfl) dX8_coverWalks_19 ⟨Nat.le_refl 0, Nat.le_refl 0⟩ rfl (fun H locs hP hD hS => ?_)
    refine lv_aload_n hx hb dX8_coverWalks_22 rfl (lv_at hl 0 rfl) ?_
    refine w_get cx hP 0 8 5 rfl rfl (by decide) m_208 rfl rfl dX8_coverWalks_23 ?_
    refine lv_aload_n hx hb dX8_coverWalks_26 rfl (lv_at hl 0 rfl) ?_
    refine w_get cx hP 0 8 0 rfl rfl (by decide) m_203 rfl rfl dX8_coverWalks_27 ?_
    obtain ⟨q_30, hc_30, hM⟩ := bd_some hM
    refine w_callV cx hP hD hS hA (c_X7_countClosedSigned g l h_t_counter h_t_counter_closed h_t_counter_closedSigned h_t_counter_primitive h_t_counter_primitiveSigned h_t_counter_reached h_t_counter_arrived h_t_graph h_t_graph_firsts h_t_graph_seconds h_t_graph_signs a_t_counter_closedSigned q_19.2.1 q_19.2.2 t_graph_vertices t_graph_edges a_t_graph_firsts a_t_graph_seconds a_t_graph_signs hc_30) [5, 7, 8, 9, 1, 2, 3, 4] rfl (by decide) rfl [ob h_t 8 [.ref h_t_graph, .ref h_t_draft, .ref h_t_history, .ref h_t_text, .ref h_t_grouping, .ref h_t_counter, .ref h_t_search, .ref h_t_edgePolynomial, .ref h_t_vertexPolynomial], ob h_t_graph 2 [.int t_graph_vertices, .int t_graph_edges, .ref h_t_graph_firsts, .ref h_t_graph_seconds, .ref h_t_graph_signs], aI g h_t_graph_firsts 9 a_t_graph_firsts, aI g h_t_graph_seconds 9 a_t_graph_seconds, aI g h_t_graph_signs 9 a_t_graph_signs, ob h_t_counter 7 [.ref h_t_counter_closed, .ref h_t_counter_closedSigned, .ref h_t_counter_primitive, .ref h_t_counter_primitiveSigned, .ref h_t_counter_reached, .ref h_t_counter_arrived], aJ g h_t_counter_closed 19 q_19.1, aJ g h_t_counter_closedSigned 19 q_30.1, aJ g h_t_counter_reached 18 q_30.2.1, aJ g h_t_counter_arrived 6 q_30.2.2] rfl 5 7 rfl rfl yq_X7_countClosedSigned rfl m_367 m_368 m_369 m_22 m_370 ⟨Nat.le_of_ble_eq_true rfl, Nat.le_of_ble_eq_true rfl⟩ rfl rfl hl.1 (Nat.le_of_ble_eq_true rfl) dX8_coverWalks_30 ⟨Nat.le_refl 0, Nat.le_refl 0⟩ rfl (fun H locs hP hD hS => ?_)
    refine lv_aload_n hx hb dX8_coverWalks_33 rfl (lv_at hl 0 rfl) ?_
    refine w_get cx hP 0 8 5 rfl rfl (by decide) m_208 rfl rfl dX8_coverWalks_34 ?_
    refine w_getN cx hP 5 7 0 rfl rfl (by decide) n_136 rfl rfl dX8_coverWalks_37 ?_
    refine lv_iload_n hx hb dX8_coverWalks_40 rfl (lv_at hl 1 rfl) ?_
    obtain ⟨g_41, hM⟩ := gd_some hM
    refine w_lald cx hP 6 rfl g_41 dX8_coverWalks_41 ?_
    refine lv_aload_n hx hb dX8_coverWalks_42 rfl (lv_at hl 0 rfl) ?_
    refine w_get cx hP 0 8 5 rfl rfl (by decide) m_208 rfl rfl dX8_coverWalks_43 ?_
    refine w_getN cx hP 5 7 1 rfl rfl (by decide) n_138 rfl rfl dX8_coverWalks_46 ?_
    refine lv_iload_n hx hb dX8_coverWalks_49 rfl (lv_at hl 1 rfl) ?_
    obtain ⟨g_50, hM⟩ := gd_some hM
    refine w_lald cx hP 7 rfl g_50 dX8_coverWalks_50 ?_
    refine lv_ladd hx hb dX8_coverWalks_51 ?_
    obtain rfl := Option.some.inj hM
    exact hfin 52 _ _ _ dX8_coverWalks_52 hP hD hS
  · have hM := if_t hM c_4
    refine lv_ldc2 hx hb hown (hts _ m_366) dX8_coverWalks_7 ?_
    obtain rfl := Option.some.inj hM
    exact hfin 10 _ _ _ dX8_coverWalks_10 hP hD hS
noncomputable def f_X8_primes (p1 : Int32) (t_graph_vertices : Int32) (t_graph_edges : Int32) (a_t_graph_firsts : Nat → Int32) (a_t_graph_seconds : Nat → Int32) (a_t_graph_signs : Nat → Int32) (a_t_counter_closed : Nat → Int64) (a_t_counter_primitive : Nat → Int64) (a_t_counter_reached : Nat → Int64) (a_t_counter_arrived : Nat → Int64) : Option (Int64 × (Nat → Int64) × (Nat → Int64) × (Nat → Int64) × (Nat → Int64)) :=
  bd (f_X8_isWalkLength p1) (fun (q_1 : Int32) => if q_1 = 0 then some ((-9223372036854775808 : Int64), a_t_counter_closed, a_t_counter_primitive, a_t_counter_reached, a_t_counter_arrived) else bd (f_X7_countPrimitive a_t_counter_closed a_t_counter_primitive a_t_counter_reached a_t_counter_arrived t_graph_vertices t_graph_edges a_t_graph_firsts a_t_graph_seconds a_t_graph_signs) (fun (q_19 : (Nat → Int64) × (Nat → Int64) × (Nat → Int64) × (Nat → Int64)) => gd (inb p1 19) (gd (nzl p1.toInt64) (some ((q_19.2.1 p1.toNatClampNeg) / p1.toInt64, q_19.1, q_19.2.1, q_19.2.2.1, q_19.2.2.2)))))
theorem yq_X8_primes : yq yX8_primes 1 := by unfold yq; decide +kernel
set_option maxHeartbeats 4000000 in
set_option maxRecDepth 100000 in
theorem c_X8_primes (g : GG) (l : Launch) (h_t : Nat) (h_t_graph : Nat) (h_t_draft : Nat) (h_t_history : Nat) (h_t_text : Nat) (h_t_grouping : Nat) (h_t_counter : Nat) (h_t_search : Nat) (h_t_edgePolynomial : Nat) (h_t_vertexPolynomial : Nat) (h_t_graph_firsts : Nat) (h_t_graph_seconds : Nat) (h_t_graph_signs : Nat) (h_t_counter_closed : Nat) (h_t_counter_closedSigned : Nat) (h_t_counter_primitive : Nat) (h_t_counter_primitiveSigned : Nat) (h_t_counter_reached : Nat) (h_t_counter_arrived : Nat) (p1 : Int32) (t_graph_vertices : Int32) (t_graph_edges : Int32) (a_t_graph_firsts : Nat → Int32) (a_t_graph_seconds : Nat → Int32) (a_t_graph_signs : Nat → Int32) (a_t_counter_closed : Nat → Int64) (a_t_counter_primitive : Nat → Int64) (a_t_counter_reached : Nat → Int64) (a_t_counter_arrived : Nat → Int64) {R : Int64 × (Nat → Int64) × (Nat → Int64) × (Nat → Int64) × (Nat → Int64)} (hM : f_X8_primes p1 t_graph_vertices t_graph_edges a_t_graph_firsts a_t_graph_seconds a_t_graph_signs a_t_counter_closed a_t_counter_primitive a_t_counter_reached a_t_counter_arrived = some R) : CT g l yX8_primes cX8_primes 2 (some .long) 5 125 [.ref h_t, .int p1] [ob h_t 8 [.ref h_t_graph, .ref h_t_draft, .ref h_t_history, .ref h_t_text, .ref h_t_grouping, .ref h_t_counter, .ref h_t_search, .ref h_t_edgePolynomial, .ref h_t_vertexPolynomial], ob h_t_graph 2 [.int t_graph_vertices, .int t_graph_edges, .ref h_t_graph_firsts, .ref h_t_graph_seconds, .ref h_t_graph_signs], aI g h_t_graph_firsts 9 a_t_graph_firsts, aI g h_t_graph_seconds 9 a_t_graph_seconds, aI g h_t_graph_signs 9 a_t_graph_signs, ob h_t_counter 7 [.ref h_t_counter_closed, .ref h_t_counter_closedSigned, .ref h_t_counter_primitive, .ref h_t_counter_primitiveSigned, .ref h_t_counter_reached, .ref h_t_counter_arrived], aJ g h_t_counter_closed 19 a_t_counter_closed, aJ g h_t_counter_primitive 19 a_t_counter_primitive, aJ g h_t_counter_reached 18 a_t_counter_reached, aJ g h_t_counter_arrived 6 a_t_counter_arrived] [ob h_t 8 [.ref h_t_graph, .ref h_t_draft, .ref h_t_history, .ref h_t_text, .ref h_t_grouping, .ref h_t_counter, .ref h_t_search, .ref h_t_edgePolynomial, .ref h_t_vertexPolynomial], ob h_t_graph 2 [.int t_graph_vertices, .int t_graph_edges, .ref h_t_graph_firsts, .ref h_t_graph_seconds, .ref h_t_graph_signs], aI g h_t_graph_firsts 9 a_t_graph_firsts, aI g h_t_graph_seconds 9 a_t_graph_seconds, aI g h_t_graph_signs 9 a_t_graph_signs, ob h_t_counter 7 [.ref h_t_counter_closed, .ref h_t_counter_closedSigned, .ref h_t_counter_primitive, .ref h_t_counter_primitiveSigned, .ref h_t_counter_reached, .ref h_t_counter_arrived], aJ g h_t_counter_closed 19 R.2.1, aJ g h_t_counter_primitive 19 R.2.2.1, aJ g h_t_counter_reached 18 R.2.2.2.1, aJ g h_t_counter_arrived 6 R.2.2.2.2] (some (.long R.1)) := by
  refine ct_l (by decide +kernel) (Nat.le_of_ble_eq_true rfl) ?_
  intro p e s m args below meth c Q A ls cx hP hD hA hl hfin
  obtain ⟨hx, hb, hml, hown, hts, hK⟩ := id cx
  have hl : lv_has ls 2 [(0, .ref h_t), (1, .int p1)] := hl
  have hS : va_S A s.heap s.heap [] := va_S.rf
  refine lv_iload_n hx hb dX8_primes_0 rfl (lv_at hl 1 rfl) ?_
  obtain ⟨q_1, hc_1, hM⟩ := bd_some hM
  refine w_callS cx hP hD hS hA (c_X8_isWalkLength g l p1 hc_1) [] rfl (by decide) rfl [ob h_t 8 [.ref h_t_graph, .ref h_t_draft, .ref h_t_history, .ref h_t_text, .ref h_t_grouping, .ref h_t_counter, .ref h_t_search, .ref h_t_edgePolynomial, .ref h_t_vertexPolynomial], ob h_t_graph 2 [.int t_graph_vertices, .int t_graph_edges, .ref h_t_graph_firsts, .ref h_t_graph_seconds, .ref h_t_graph_signs], aI g h_t_graph_firsts 9 a_t_graph_firsts, aI g h_t_graph_seconds 9 a_t_graph_seconds, aI g h_t_graph_signs 9 a_t_graph_signs, ob h_t_counter 7 [.ref h_t_counter_closed, .ref h_t_counter_closedSigned, .ref h_t_counter_primitive, .ref h_t_counter_primitiveSigned, .ref h_t_counter_reached, .ref h_t_counter_arrived], aJ g h_t_counter_closed 19 a_t_counter_closed, aJ g h_t_counter_primitive 19 a_t_counter_primitive, aJ g h_t_counter_reached 18 a_t_counter_reached, aJ g h_t_counter_arrived 6 a_t_counter_arrived] rfl yq_X8_isWalkLength m_363 m_364 m_17 m_365 ⟨Nat.le_of_ble_eq_true rfl, Nat.le_of_ble_eq_true rfl⟩ rfl rfl hl.1 (Nat.le_of_ble_eq_true rfl) dX8_primes_1 ⟨Nat.le_refl 0, Nat.le_refl 0⟩ rfl (fun H locs hP hD hS => ?_)
  refine lv_if_ne (tgt := 11) hx hb dX8_primes_4 (by decide) (fun c_4 => ?_) (fun c_4 => ?_)
  · have hM := if_f hM c_4
    refine lv_aload_n hx hb dX8_primes_11 rfl (lv_at hl 0 rfl) ?_
    refine w_get cx hP 0 8 5 rfl rfl (by decide) m_208 rfl rfl dX8_primes_12 ?_
    refine lv_aload_n hx hb dX8_primes_15 rfl (lv_at hl 0 rfl) ?_
    refine w_get cx hP 0 8 0 rfl rfl (by decide) m_203 rfl rfl dX8_primes_16 ?_
    obtain ⟨q_19, hc_19, hM⟩ := bd_some hM
    refine w_callV cx hP hD hS hA (c_X7_countPrimitive g l h_t_counter h_t_counter_closed h_t_counter_closedSigned h_t_counter_primitive h_t_counter_primitiveSigned h_t_counter_reached h_t_counter_arrived h_t_graph h_t_graph_firsts h_t_graph_seconds h_t_graph_signs a_t_counter_closed a_t_counter_primitive a_t_counter_reached a_t_counter_arrived t_graph_vertices t_graph_edges a_t_graph_firsts a_t_graph_seconds a_t_graph_signs hc_19) [5, 6, 7, 8, 9, 1, 2, 3, 4] rfl (by decide) rfl [ob h_t 8 [.ref h_t_graph, .ref h_t_draft, .ref h_t_history, .ref h_t_text, .ref h_t_grouping, .ref h_t_counter, .ref h_t_search, .ref h_t_edgePolynomial, .ref h_t_vertexPolynomial], ob h_t_graph 2 [.int t_graph_vertices, .int t_graph_edges, .ref h_t_graph_firsts, .ref h_t_graph_seconds, .ref h_t_graph_signs], aI g h_t_graph_firsts 9 a_t_graph_firsts, aI g h_t_graph_seconds 9 a_t_graph_seconds, aI g h_t_graph_signs 9 a_t_graph_signs, ob h_t_counter 7 [.ref h_t_counter_closed, .ref h_t_counter_closedSigned, .ref h_t_counter_primitive, .ref h_t_counter_primitiveSigned, .ref h_t_counter_reached, .ref h_t_counter_arrived], aJ g h_t_counter_closed 19 q_19.1, aJ g h_t_counter_primitive 19 q_19.2.1, aJ g h_t_counter_reached 18 q_19.2.2.1, aJ g h_t_counter_arrived 6 q_19.2.2.2] rfl 5 7 rfl rfl yq_X7_countPrimitive rfl m_454 m_455 m_456 m_22 m_457 ⟨Nat.le_of_ble_eq_true rfl, Nat.le_of_ble_eq_true rfl⟩ rfl rfl hl.1 (Nat.le_of_ble_eq_true rfl) dX8_primes_19 ⟨Nat.le_refl 0, Nat.le_refl 0⟩ rfl (fun H locs hP hD hS => ?_)
    refine lv_aload_n hx hb dX8_primes_22 rfl (lv_at hl 0 rfl) ?_
    refine w_get cx hP 0 8 5 rfl rfl (by decide) m_208 rfl rfl dX8_primes_23 ?_
    refine w_getN cx hP 5 7 2 rfl rfl (by decide) n_140 rfl rfl dX8_primes_26 ?_
    refine lv_iload_n hx hb dX8_primes_29 rfl (lv_at hl 1 rfl) ?_
    obtain ⟨g_30, hM⟩ := gd_some hM
    refine w_lald cx hP 7 rfl g_30 dX8_primes_30 ?_
    refine lv_iload_n hx hb dX8_primes_31 rfl (lv_at hl 1 rfl) ?_
    refine lv_i2l (v := p1.toInt64) hx hb dX8_primes_32 rfl ?_
    obtain ⟨g_33, hM⟩ := gd_some hM
    refine lv_ldiv hx hb dX8_primes_33 (nzl_ne g_33) ?_
    obtain rfl := Option.some.inj hM
    exact hfin 34 _ _ _ dX8_primes_34 hP hD hS
  · have hM := if_t hM c_4
    refine lv_ldc2 hx hb hown (hts _ m_366) dX8_primes_7 ?_
    obtain rfl := Option.some.inj hM
    exact hfin 10 _ _ _ dX8_primes_10 hP hD hS
noncomputable def f_X8_positivePrimes (p1 : Int32) (t_graph_vertices : Int32) (t_graph_edges : Int32) (a_t_graph_firsts : Nat → Int32) (a_t_graph_seconds : Nat → Int32) (a_t_graph_signs : Nat → Int32) (a_t_counter_closed : Nat → Int64) (a_t_counter_closedSigned : Nat → Int64) (a_t_counter_primitive : Nat → Int64) (a_t_counter_primitiveSigned : Nat → Int64) (a_t_counter_reached : Nat → Int64) (a_t_counter_arrived : Nat → Int64) : Option (Int64 × (Nat → Int64) × (Nat → Int64) × (Nat → Int64) × (Nat → Int64) × (Nat → Int64) × (Nat → Int64)) :=
  bd (f_X8_isWalkLength p1) (fun (q_1 : Int32) => if q_1 = 0 then some ((-9223372036854775808 : Int64), a_t_counter_closed, a_t_counter_closedSigned, a_t_counter_primitive, a_t_counter_primitiveSigned, a_t_counter_reached, a_t_counter_arrived) else bd (f_X7_countPrimitiveSigned a_t_counter_closed a_t_counter_closedSigned a_t_counter_primitive a_t_counter_primitiveSigned a_t_counter_reached a_t_counter_arrived t_graph_vertices t_graph_edges a_t_graph_firsts a_t_graph_seconds a_t_graph_signs) (fun (q_19 : (Nat → Int64) × (Nat → Int64) × (Nat → Int64) × (Nat → Int64) × (Nat → Int64) × (Nat → Int64)) => gd (inb p1 19) (gd (inb p1 19) (nm (((q_19.2.2.1 p1.toNatClampNeg) + (q_19.2.2.2.1 p1.toNatClampNeg)) / (2 : Int64)) (fun (x_45 : Int64) => gd (nzl p1.toInt64) (some (x_45 / p1.toInt64, q_19.1, q_19.2.1, q_19.2.2.1, q_19.2.2.2.1, q_19.2.2.2.2.1, q_19.2.2.2.2.2)))))))
theorem yq_X8_positivePrimes : yq yX8_positivePrimes 1 := by unfold yq; decide +kernel
set_option maxHeartbeats 4000000 in
set_option maxRecDepth 100000 in
theorem c_X8_positivePrimes (g : GG) (l : Launch) (h_t : Nat) (h_t_graph : Nat) (h_t_draft : Nat) (h_t_history : Nat) (h_t_text : Nat) (h_t_grouping : Nat) (h_t_counter : Nat) (h_t_search : Nat) (h_t_edgePolynomial : Nat) (h_t_vertexPolynomial : Nat) (h_t_graph_firsts : Nat) (h_t_graph_seconds : Nat) (h_t_graph_signs : Nat) (h_t_counter_closed : Nat) (h_t_counter_closedSigned : Nat) (h_t_counter_primitive : Nat) (h_t_counter_primitiveSigned : Nat) (h_t_counter_reached : Nat) (h_t_counter_arrived : Nat) (p1 : Int32) (t_graph_vertices : Int32) (t_graph_edges : Int32) (a_t_graph_firsts : Nat → Int32) (a_t_graph_seconds : Nat → Int32) (a_t_graph_signs : Nat → Int32) (a_t_counter_closed : Nat → Int64) (a_t_counter_closedSigned : Nat → Int64) (a_t_counter_primitive : Nat → Int64) (a_t_counter_primitiveSigned : Nat → Int64) (a_t_counter_reached : Nat → Int64) (a_t_counter_arrived : Nat → Int64) {R : Int64 × (Nat → Int64) × (Nat → Int64) × (Nat → Int64) × (Nat → Int64) × (Nat → Int64) × (Nat → Int64)} (hM : f_X8_positivePrimes p1 t_graph_vertices t_graph_edges a_t_graph_firsts a_t_graph_seconds a_t_graph_signs a_t_counter_closed a_t_counter_closedSigned a_t_counter_primitive a_t_counter_primitiveSigned a_t_counter_reached a_t_counter_arrived = some R) : CT g l yX8_positivePrimes cX8_positivePrimes 4 (some .long) 6 149 [.ref h_t, .int p1] [ob h_t 8 [.ref h_t_graph, .ref h_t_draft, .ref h_t_history, .ref h_t_text, .ref h_t_grouping, .ref h_t_counter, .ref h_t_search, .ref h_t_edgePolynomial, .ref h_t_vertexPolynomial], ob h_t_graph 2 [.int t_graph_vertices, .int t_graph_edges, .ref h_t_graph_firsts, .ref h_t_graph_seconds, .ref h_t_graph_signs], aI g h_t_graph_firsts 9 a_t_graph_firsts, aI g h_t_graph_seconds 9 a_t_graph_seconds, aI g h_t_graph_signs 9 a_t_graph_signs, ob h_t_counter 7 [.ref h_t_counter_closed, .ref h_t_counter_closedSigned, .ref h_t_counter_primitive, .ref h_t_counter_primitiveSigned, .ref h_t_counter_reached, .ref h_t_counter_arrived], aJ g h_t_counter_closed 19 a_t_counter_closed, aJ g h_t_counter_closedSigned 19 a_t_counter_closedSigned, aJ g h_t_counter_primitive 19 a_t_counter_primitive, aJ g h_t_counter_primitiveSigned 19 a_t_counter_primitiveSigned, aJ g h_t_counter_reached 18 a_t_counter_reached, aJ g h_t_counter_arrived 6 a_t_counter_arrived] [ob h_t 8 [.ref h_t_graph, .ref h_t_draft, .ref h_t_history, .ref h_t_text, .ref h_t_grouping, .ref h_t_counter, .ref h_t_search, .ref h_t_edgePolynomial, .ref h_t_vertexPolynomial], ob h_t_graph 2 [.int t_graph_vertices, .int t_graph_edges, .ref h_t_graph_firsts, .ref h_t_graph_seconds, .ref h_t_graph_signs], aI g h_t_graph_firsts 9 a_t_graph_firsts, aI g h_t_graph_seconds 9 a_t_graph_seconds, aI g h_t_graph_signs 9 a_t_graph_signs, ob h_t_counter 7 [.ref h_t_counter_closed, .ref h_t_counter_closedSigned, .ref h_t_counter_primitive, .ref h_t_counter_primitiveSigned, .ref h_t_counter_reached, .ref h_t_counter_arrived], aJ g h_t_counter_closed 19 R.2.1, aJ g h_t_counter_closedSigned 19 R.2.2.1, aJ g h_t_counter_primitive 19 R.2.2.2.1, aJ g h_t_counter_primitiveSigned 19 R.2.2.2.2.1, aJ g h_t_counter_reached 18 R.2.2.2.2.2.1, aJ g h_t_counter_arrived 6 R.2.2.2.2.2.2] (some (.long R.1)) := by
  refine ct_l (by decide +kernel) (Nat.le_of_ble_eq_true rfl) ?_
  intro p e s m args below meth c Q A ls cx hP hD hA hl hfin
  obtain ⟨hx, hb, hml, hown, hts, hK⟩ := id cx
  have hl : lv_has ls 4 [(0, .ref h_t), (1, .int p1)] := hl
  have hS : va_S A s.heap s.heap [] := va_S.rf
  refine lv_iload_n hx hb dX8_positivePrimes_0 rfl (lv_at hl 1 rfl) ?_
  obtain ⟨q_1, hc_1, hM⟩ := bd_some hM
  refine w_callS cx hP hD hS hA (c_X8_isWalkLength g l p1 hc_1) [] rfl (by decide) rfl [ob h_t 8 [.ref h_t_graph, .ref h_t_draft, .ref h_t_history, .ref h_t_text, .ref h_t_grouping, .ref h_t_counter, .ref h_t_search, .ref h_t_edgePolynomial, .ref h_t_vertexPolynomial], ob h_t_graph 2 [.int t_graph_vertices, .int t_graph_edges, .ref h_t_graph_firsts, .ref h_t_graph_seconds, .ref h_t_graph_signs], aI g h_t_graph_firsts 9 a_t_graph_firsts, aI g h_t_graph_seconds 9 a_t_graph_seconds, aI g h_t_graph_signs 9 a_t_graph_signs, ob h_t_counter 7 [.ref h_t_counter_closed, .ref h_t_counter_closedSigned, .ref h_t_counter_primitive, .ref h_t_counter_primitiveSigned, .ref h_t_counter_reached, .ref h_t_counter_arrived], aJ g h_t_counter_closed 19 a_t_counter_closed, aJ g h_t_counter_closedSigned 19 a_t_counter_closedSigned, aJ g h_t_counter_primitive 19 a_t_counter_primitive, aJ g h_t_counter_primitiveSigned 19 a_t_counter_primitiveSigned, aJ g h_t_counter_reached 18 a_t_counter_reached, aJ g h_t_counter_arrived 6 a_t_counter_arrived] rfl yq_X8_isWalkLength m_363 m_364 m_17 m_365 ⟨Nat.le_of_ble_eq_true rfl, Nat.le_of_ble_eq_true rfl⟩ rfl rfl hl.1 (Nat.le_of_ble_eq_true rfl) dX8_positivePrimes_1 ⟨Nat.le_refl 0, Nat.le_refl 0⟩ rfl (fun H locs hP hD hS => ?_)
  refine lv_if_ne (tgt := 11) hx hb dX8_positivePrimes_4 (by decide) (fun c_4 => ?_) (fun c_4 => ?_)
  · have hM := if_f hM c_4
    refine lv_aload_n hx hb dX8_positivePrimes_11 rfl (lv_at hl 0 rfl) ?_
    refine w_get cx hP 0 8 5 rfl rfl (by decide) m_208 rfl rfl dX8_positivePrimes_12 ?_
    refine lv_aload_n hx hb dX8_positivePrimes_15 rfl (lv_at hl 0 rfl) ?_
    refine w_get cx hP 0 8 0 rfl rfl (by decide) m_203 rfl rfl dX8_positivePrimes_16 ?_
    obtain ⟨q_19, hc_19, hM⟩ := bd_some hM
    refine w_callV cx hP hD hS hA (c_X7_countPrimitiveSigned g l h_t_counter h_t_counter_closed h_t_counter_closedSigned h_t_counter_primitive h_t_counter_primitiveSigned h_t_counter_reached h_t_counter_arrived h_t_graph h_t_graph_firsts h_t_graph_seconds h_t_graph_signs a_t_counter_closed a_t_counter_closedSigned a_t_counter_primitive a_t_counter_primitiveSigned a_t_counter_reached a_t_counter_arrived t_graph_vertices t_graph_edges a_t_graph_firsts a_t_graph_seconds a_t_graph_signs hc_19) [5, 6, 7, 8, 9, 10, 11, 1, 2, 3, 4] rfl (by decide) rfl [ob h_t 8 [.ref h_t_graph, .ref h_t_draft, .ref h_t_history, .ref h_t_text, .ref h_t_grouping, .ref h_t_counter, .ref h_t_search, .ref h_t_edgePolynomial, .ref h_t_vertexPolynomial], ob h_t_graph 2 [.int t_graph_vertices, .int t_graph_edges, .ref h_t_graph_firsts, .ref h_t_graph_seconds, .ref h_t_graph_signs], aI g h_t_graph_firsts 9 a_t_graph_firsts, aI g h_t_graph_seconds 9 a_t_graph_seconds, aI g h_t_graph_signs 9 a_t_graph_signs, ob h_t_counter 7 [.ref h_t_counter_closed, .ref h_t_counter_closedSigned, .ref h_t_counter_primitive, .ref h_t_counter_primitiveSigned, .ref h_t_counter_reached, .ref h_t_counter_arrived], aJ g h_t_counter_closed 19 q_19.1, aJ g h_t_counter_closedSigned 19 q_19.2.1, aJ g h_t_counter_primitive 19 q_19.2.2.1, aJ g h_t_counter_primitiveSigned 19 q_19.2.2.2.1, aJ g h_t_counter_reached 18 q_19.2.2.2.2.1, aJ g h_t_counter_arrived 6 q_19.2.2.2.2.2] rfl 5 7 rfl rfl yq_X7_countPrimitiveSigned rfl m_463 m_464 m_465 m_22 m_466 ⟨Nat.le_of_ble_eq_true rfl, Nat.le_of_ble_eq_true rfl⟩ rfl rfl hl.1 (Nat.le_of_ble_eq_true rfl) dX8_positivePrimes_19 ⟨Nat.le_refl 0, Nat.le_refl 0⟩ rfl (fun H locs hP hD hS => ?_)
    refine lv_aload_n hx hb dX8_positivePrimes_22 rfl (lv_at hl 0 rfl) ?_
    refine w_get cx hP 0 8 5 rfl rfl (by decide) m_208 rfl rfl dX8_positivePrimes_23 ?_
    refine w_getN cx hP 5 7 2 rfl rfl (by decide) n_140 rfl rfl dX8_positivePrimes_26 ?_
    refine lv_iload_n hx hb dX8_positivePrimes_29 rfl (lv_at hl 1 rfl) ?_
    obtain ⟨g_30, hM⟩ := gd_some hM
    refine w_lald cx hP 8 rfl g_30 dX8_positivePrimes_30 ?_
    refine lv_aload_n hx hb dX8_positivePrimes_31 rfl (lv_at hl 0 rfl) ?_
    refine w_get cx hP 0 8 5 rfl rfl (by decide) m_208 rfl rfl dX8_positivePrimes_32 ?_
    refine w_getN cx hP 5 7 3 rfl rfl (by decide) n_142 rfl rfl dX8_positivePrimes_35 ?_
    refine lv_iload_n hx hb dX8_positivePrimes_38 rfl (lv_at hl 1 rfl) ?_
    obtain ⟨g_39, hM⟩ := gd_some hM
    refine w_lald cx hP 9 rfl g_39 dX8_positivePrimes_39 ?_
    refine lv_ladd hx hb dX8_positivePrimes_40 ?_
    refine lv_ldc2 hx hb hown (hts _ m_469) dX8_positivePrimes_41 ?_
    refine lv_ldiv hx hb dX8_positivePrimes_44 (by decide) ?_
    refine lv_topl (fun x_45 ex_45 => ?_)
    have hM := nm_some hM x_45 ex_45
    refine lv_lstore_n (lv' := [(2, .long x_45), (0, .ref h_t), (1, .int p1)]) hx hb dX8_positivePrimes_45 rfl hl (by decide) rfl (fun ls hl => ?_)
    refine lv_lload_n hx hb dX8_positivePrimes_46 rfl (lv_at hl 0 rfl) ?_
    refine lv_iload_n hx hb dX8_positivePrimes_47 rfl (lv_at hl 2 rfl) ?_
    refine lv_i2l (v := p1.toInt64) hx hb dX8_positivePrimes_48 rfl ?_
    obtain ⟨g_49, hM⟩ := gd_some hM
    refine lv_ldiv hx hb dX8_positivePrimes_49 (nzl_ne g_49) ?_
    obtain rfl := Option.some.inj hM
    exact hfin 50 _ _ _ dX8_positivePrimes_50 hP hD hS
  · have hM := if_t hM c_4
    refine lv_ldc2 hx hb hown (hts _ m_366) dX8_positivePrimes_7 ?_
    obtain rfl := Option.some.inj hM
    exact hfin 10 _ _ _ dX8_positivePrimes_10 hP hD hS
noncomputable def b_X8_girth_13 (q_8 : (Nat → Int64) × (Nat → Int64) × (Nat → Int64) × (Nat → Int64)) : Int32 → Option ((Int32) ⊕ ((Int32) ⊕ (Unit))) := fun z_13 =>
  if (nI 18) < z_13 then some (.inr (.inr ())) else gd (inb z_13 19) (if (lg_cmp (q_8.2.1 z_13.toNatClampNeg) (0 : Int64)) = 0 then some (.inl (z_13 + (nI 1))) else some (.inr (.inl z_13)))
noncomputable def f_X8_girth (t_graph_vertices : Int32) (t_graph_edges : Int32) (a_t_graph_firsts : Nat → Int32) (a_t_graph_seconds : Nat → Int32) (a_t_graph_signs : Nat → Int32) (a_t_counter_closed : Nat → Int64) (a_t_counter_primitive : Nat → Int64) (a_t_counter_reached : Nat → Int64) (a_t_counter_arrived : Nat → Int64) : Option (Int32 × (Nat → Int64) × (Nat → Int64) × (Nat → Int64) × (Nat → Int64)) :=
  bd (f_X7_countPrimitive a_t_counter_closed a_t_counter_primitive a_t_counter_reached a_t_counter_arrived t_graph_vertices t_graph_edges a_t_graph_firsts a_t_graph_seconds a_t_graph_signs) (fun (q_8 : (Nat → Int64) × (Nat → Int64) × (Nat → Int64) × (Nat → Int64)) => bd (wh (b_X8_girth_13 q_8) (nI 1)) (fun (r_13 : (Int32) ⊕ (Unit)) => ex2 r_13 (fun (r_13_0 : Int32) => some (r_13_0, q_8.1, q_8.2.1, q_8.2.2.1, q_8.2.2.2)) (fun (r_13_1 : Unit) => some ((nI 4294967287), q_8.1, q_8.2.1, q_8.2.2.1, q_8.2.2.2))))
theorem yq_X8_girth : yq yX8_girth 0 := by unfold yq; decide +kernel
set_option maxHeartbeats 4000000 in
set_option maxRecDepth 100000 in
theorem c_X8_girth (g : GG) (l : Launch) (h_t : Nat) (h_t_graph : Nat) (h_t_draft : Nat) (h_t_history : Nat) (h_t_text : Nat) (h_t_grouping : Nat) (h_t_counter : Nat) (h_t_search : Nat) (h_t_edgePolynomial : Nat) (h_t_vertexPolynomial : Nat) (h_t_graph_firsts : Nat) (h_t_graph_seconds : Nat) (h_t_graph_signs : Nat) (h_t_counter_closed : Nat) (h_t_counter_closedSigned : Nat) (h_t_counter_primitive : Nat) (h_t_counter_primitiveSigned : Nat) (h_t_counter_reached : Nat) (h_t_counter_arrived : Nat) (t_graph_vertices : Int32) (t_graph_edges : Int32) (a_t_graph_firsts : Nat → Int32) (a_t_graph_seconds : Nat → Int32) (a_t_graph_signs : Nat → Int32) (a_t_counter_closed : Nat → Int64) (a_t_counter_primitive : Nat → Int64) (a_t_counter_reached : Nat → Int64) (a_t_counter_arrived : Nat → Int64) {R : Int32 × (Nat → Int64) × (Nat → Int64) × (Nat → Int64) × (Nat → Int64)} (hM : f_X8_girth t_graph_vertices t_graph_edges a_t_graph_firsts a_t_graph_seconds a_t_graph_signs a_t_counter_closed a_t_counter_primitive a_t_counter_reached a_t_counter_arrived = some R) : CT g l yX8_girth cX8_girth 2 (some .int) 5 125 [.ref h_t] [ob h_t 8 [.ref h_t_graph, .ref h_t_draft, .ref h_t_history, .ref h_t_text, .ref h_t_grouping, .ref h_t_counter, .ref h_t_search, .ref h_t_edgePolynomial, .ref h_t_vertexPolynomial], ob h_t_graph 2 [.int t_graph_vertices, .int t_graph_edges, .ref h_t_graph_firsts, .ref h_t_graph_seconds, .ref h_t_graph_signs], aI g h_t_graph_firsts 9 a_t_graph_firsts, aI g h_t_graph_seconds 9 a_t_graph_seconds, aI g h_t_graph_signs 9 a_t_graph_signs, ob h_t_counter 7 [.ref h_t_counter_closed, .ref h_t_counter_closedSigned, .ref h_t_counter_primitive, .ref h_t_counter_primitiveSigned, .ref h_t_counter_reached, .ref h_t_counter_arrived], aJ g h_t_counter_closed 19 a_t_counter_closed, aJ g h_t_counter_primitive 19 a_t_counter_primitive, aJ g h_t_counter_reached 18 a_t_counter_reached, aJ g h_t_counter_arrived 6 a_t_counter_arrived] [ob h_t 8 [.ref h_t_graph, .ref h_t_draft, .ref h_t_history, .ref h_t_text, .ref h_t_grouping, .ref h_t_counter, .ref h_t_search, .ref h_t_edgePolynomial, .ref h_t_vertexPolynomial], ob h_t_graph 2 [.int t_graph_vertices, .int t_graph_edges, .ref h_t_graph_firsts, .ref h_t_graph_seconds, .ref h_t_graph_signs], aI g h_t_graph_firsts 9 a_t_graph_firsts, aI g h_t_graph_seconds 9 a_t_graph_seconds, aI g h_t_graph_signs 9 a_t_graph_signs, ob h_t_counter 7 [.ref h_t_counter_closed, .ref h_t_counter_closedSigned, .ref h_t_counter_primitive, .ref h_t_counter_primitiveSigned, .ref h_t_counter_reached, .ref h_t_counter_arrived], aJ g h_t_counter_closed 19 R.2.1, aJ g h_t_counter_primitive 19 R.2.2.1, aJ g h_t_counter_reached 18 R.2.2.2.1, aJ g h_t_counter_arrived 6 R.2.2.2.2] (some (.int R.1)) := by
  refine ct_i (by decide +kernel) (Nat.le_of_ble_eq_true rfl) ?_
  intro p e s m args below meth c Q A ls cx hP hD hA hl hfin
  obtain ⟨hx, hb, hml, hown, hts, hK⟩ := id cx
  have hl : lv_has ls 2 [(0, .ref h_t)] := hl
  have hS : va_S A s.heap s.heap [] := va_S.rf
  refine lv_aload_n hx hb dX8_girth_0 rfl (lv_at hl 0 rfl) ?_
  refine w_get cx hP 0 8 5 rfl rfl (by decide) m_208 rfl rfl dX8_girth_1 ?_
  refine lv_aload_n hx hb dX8_girth_4 rfl (lv_at hl 0 rfl) ?_
  refine w_get cx hP 0 8 0 rfl rfl (by decide) m_203 rfl rfl dX8_girth_5 ?_
  obtain ⟨q_8, hc_8, hM⟩ := bd_some hM
  refine w_callV cx hP hD hS hA (c_X7_countPrimitive g l h_t_counter h_t_counter_closed h_t_counter_closedSigned h_t_counter_primitive h_t_counter_primitiveSigned h_t_counter_reached h_t_counter_arrived h_t_graph h_t_graph_firsts h_t_graph_seconds h_t_graph_signs a_t_counter_closed a_t_counter_primitive a_t_counter_reached a_t_counter_arrived t_graph_vertices t_graph_edges a_t_graph_firsts a_t_graph_seconds a_t_graph_signs hc_8) [5, 6, 7, 8, 9, 1, 2, 3, 4] rfl (by decide) rfl [ob h_t 8 [.ref h_t_graph, .ref h_t_draft, .ref h_t_history, .ref h_t_text, .ref h_t_grouping, .ref h_t_counter, .ref h_t_search, .ref h_t_edgePolynomial, .ref h_t_vertexPolynomial], ob h_t_graph 2 [.int t_graph_vertices, .int t_graph_edges, .ref h_t_graph_firsts, .ref h_t_graph_seconds, .ref h_t_graph_signs], aI g h_t_graph_firsts 9 a_t_graph_firsts, aI g h_t_graph_seconds 9 a_t_graph_seconds, aI g h_t_graph_signs 9 a_t_graph_signs, ob h_t_counter 7 [.ref h_t_counter_closed, .ref h_t_counter_closedSigned, .ref h_t_counter_primitive, .ref h_t_counter_primitiveSigned, .ref h_t_counter_reached, .ref h_t_counter_arrived], aJ g h_t_counter_closed 19 q_8.1, aJ g h_t_counter_primitive 19 q_8.2.1, aJ g h_t_counter_reached 18 q_8.2.2.1, aJ g h_t_counter_arrived 6 q_8.2.2.2] rfl 5 7 rfl rfl yq_X7_countPrimitive rfl m_454 m_455 m_456 m_22 m_457 ⟨Nat.le_of_ble_eq_true rfl, Nat.le_of_ble_eq_true rfl⟩ rfl rfl hl.1 (Nat.le_of_ble_eq_true rfl) dX8_girth_8 ⟨Nat.le_refl 0, Nat.le_refl 0⟩ rfl (fun H locs hP hD hS => ?_)
  refine lv_iconst (v := (nI 1)) hx hb dX8_girth_11 (by decide) ?_
  refine lv_istore_n (lv' := [(1, .int (nI 1)), (0, .ref h_t)]) hx hb dX8_girth_12 rfl hl (by decide) rfl (fun ls hl => ?_)
  obtain ⟨r_13, hw, hM⟩ := bd_some hM
  obtain ⟨n, hn⟩ := wh_some hw
  clear hw
  have hE_13_0 : ∀ (r_13_0 : Int32), r_13 = .inl r_13_0 → ∀ (H : Heap) (locs : List Loc) (ls : Array Slot), va_P (gD g) vwCl [ob h_t 8 [.ref h_t_graph, .ref h_t_draft, .ref h_t_history, .ref h_t_text, .ref h_t_grouping, .ref h_t_counter, .ref h_t_search, .ref h_t_edgePolynomial, .ref h_t_vertexPolynomial], ob h_t_graph 2 [.int t_graph_vertices, .int t_graph_edges, .ref h_t_graph_firsts, .ref h_t_graph_seconds, .ref h_t_graph_signs], aI g h_t_graph_firsts 9 a_t_graph_firsts, aI g h_t_graph_seconds 9 a_t_graph_seconds, aI g h_t_graph_signs 9 a_t_graph_signs, ob h_t_counter 7 [.ref h_t_counter_closed, .ref h_t_counter_closedSigned, .ref h_t_counter_primitive, .ref h_t_counter_primitiveSigned, .ref h_t_counter_reached, .ref h_t_counter_arrived], aJ g h_t_counter_closed 19 q_8.1, aJ g h_t_counter_primitive 19 q_8.2.1, aJ g h_t_counter_reached 18 q_8.2.2.1, aJ g h_t_counter_arrived 6 q_8.2.2.2] H → va_D A [ob h_t 8 [.ref h_t_graph, .ref h_t_draft, .ref h_t_history, .ref h_t_text, .ref h_t_grouping, .ref h_t_counter, .ref h_t_search, .ref h_t_edgePolynomial, .ref h_t_vertexPolynomial], ob h_t_graph 2 [.int t_graph_vertices, .int t_graph_edges, .ref h_t_graph_firsts, .ref h_t_graph_seconds, .ref h_t_graph_signs], aI g h_t_graph_firsts 9 a_t_graph_firsts, aI g h_t_graph_seconds 9 a_t_graph_seconds, aI g h_t_graph_signs 9 a_t_graph_signs, ob h_t_counter 7 [.ref h_t_counter_closed, .ref h_t_counter_closedSigned, .ref h_t_counter_primitive, .ref h_t_counter_primitiveSigned, .ref h_t_counter_reached, .ref h_t_counter_arrived], aJ g h_t_counter_closed 19 q_8.1, aJ g h_t_counter_primitive 19 q_8.2.1, aJ g h_t_counter_reached 18 q_8.2.2.1, aJ g h_t_counter_arrived 6 q_8.2.2.2] → va_S A s.heap H locs → lv_has ls 2 [(1, .int r_13_0)] → W p l e (rmv 5 125) s m args below meth c H locs 0 0 Q (F0 m 33 ls []) := by
    intro r_13_0 hr H locs ls hP hD hS hl
    have hM := ex2_0 hM hr
    refine lv_iload_n hx hb dX8_girth_33 rfl (lv_at hl 0 rfl) ?_
    obtain rfl := Option.some.inj hM
    exact hfin 34 _ _ _ dX8_girth_34 hP hD hS
  have hE_13_1 : ∀ (r_13_1 : Unit), r_13 = .inr r_13_1 → ∀ (H : Heap) (locs : List Loc) (ls : Array Slot), va_P (gD g) vwCl [ob h_t 8 [.ref h_t_graph, .ref h_t_draft, .ref h_t_history, .ref h_t_text, .ref h_t_grouping, .ref h_t_counter, .ref h_t_search, .ref h_t_edgePolynomial, .ref h_t_vertexPolynomial], ob h_t_graph 2 [.int t_graph_vertices, .int t_graph_edges, .ref h_t_graph_firsts, .ref h_t_graph_seconds, .ref h_t_graph_signs], aI g h_t_graph_firsts 9 a_t_graph_firsts, aI g h_t_graph_seconds 9 a_t_graph_seconds, aI g h_t_graph_signs 9 a_t_graph_signs, ob h_t_counter 7 [.ref h_t_counter_closed, .ref h_t_counter_closedSigned, .ref h_t_counter_primitive, .ref h_t_counter_primitiveSigned, .ref h_t_counter_reached, .ref h_t_counter_arrived], aJ g h_t_counter_closed 19 q_8.1, aJ g h_t_counter_primitive 19 q_8.2.1, aJ g h_t_counter_reached 18 q_8.2.2.1, aJ g h_t_counter_arrived 6 q_8.2.2.2] H → va_D A [ob h_t 8 [.ref h_t_graph, .ref h_t_draft, .ref h_t_history, .ref h_t_text, .ref h_t_grouping, .ref h_t_counter, .ref h_t_search, .ref h_t_edgePolynomial, .ref h_t_vertexPolynomial], ob h_t_graph 2 [.int t_graph_vertices, .int t_graph_edges, .ref h_t_graph_firsts, .ref h_t_graph_seconds, .ref h_t_graph_signs], aI g h_t_graph_firsts 9 a_t_graph_firsts, aI g h_t_graph_seconds 9 a_t_graph_seconds, aI g h_t_graph_signs 9 a_t_graph_signs, ob h_t_counter 7 [.ref h_t_counter_closed, .ref h_t_counter_closedSigned, .ref h_t_counter_primitive, .ref h_t_counter_primitiveSigned, .ref h_t_counter_reached, .ref h_t_counter_arrived], aJ g h_t_counter_closed 19 q_8.1, aJ g h_t_counter_primitive 19 q_8.2.1, aJ g h_t_counter_reached 18 q_8.2.2.1, aJ g h_t_counter_arrived 6 q_8.2.2.2] → va_S A s.heap H locs → lv_has ls 2 [] → W p l e (rmv 5 125) s m args below meth c H locs 0 0 Q (F0 m 41 ls []) := by
    intro r_13_1 hr H locs ls hP hD hS hl
    have hM := ex2_1 hM hr
    refine lv_bipush (v := (nI 4294967287)) hx hb dX8_girth_41 (by decide) ?_
    obtain rfl := Option.some.inj hM
    exact hfin 43 _ _ _ dX8_girth_43 hP hD hS
  clear hM
  have hL_13 : ∀ (n : Nat) (z_13 : Int32), it (b_X8_girth_13 q_8) n z_13 = some r_13 → ∀ (H : Heap) (locs : List Loc) (ls : Array Slot), va_P (gD g) vwCl [ob h_t 8 [.ref h_t_graph, .ref h_t_draft, .ref h_t_history, .ref h_t_text, .ref h_t_grouping, .ref h_t_counter, .ref h_t_search, .ref h_t_edgePolynomial, .ref h_t_vertexPolynomial], ob h_t_graph 2 [.int t_graph_vertices, .int t_graph_edges, .ref h_t_graph_firsts, .ref h_t_graph_seconds, .ref h_t_graph_signs], aI g h_t_graph_firsts 9 a_t_graph_firsts, aI g h_t_graph_seconds 9 a_t_graph_seconds, aI g h_t_graph_signs 9 a_t_graph_signs, ob h_t_counter 7 [.ref h_t_counter_closed, .ref h_t_counter_closedSigned, .ref h_t_counter_primitive, .ref h_t_counter_primitiveSigned, .ref h_t_counter_reached, .ref h_t_counter_arrived], aJ g h_t_counter_closed 19 q_8.1, aJ g h_t_counter_primitive 19 q_8.2.1, aJ g h_t_counter_reached 18 q_8.2.2.1, aJ g h_t_counter_arrived 6 q_8.2.2.2] H → va_D A [ob h_t 8 [.ref h_t_graph, .ref h_t_draft, .ref h_t_history, .ref h_t_text, .ref h_t_grouping, .ref h_t_counter, .ref h_t_search, .ref h_t_edgePolynomial, .ref h_t_vertexPolynomial], ob h_t_graph 2 [.int t_graph_vertices, .int t_graph_edges, .ref h_t_graph_firsts, .ref h_t_graph_seconds, .ref h_t_graph_signs], aI g h_t_graph_firsts 9 a_t_graph_firsts, aI g h_t_graph_seconds 9 a_t_graph_seconds, aI g h_t_graph_signs 9 a_t_graph_signs, ob h_t_counter 7 [.ref h_t_counter_closed, .ref h_t_counter_closedSigned, .ref h_t_counter_primitive, .ref h_t_counter_primitiveSigned, .ref h_t_counter_reached, .ref h_t_counter_arrived], aJ g h_t_counter_closed 19 q_8.1, aJ g h_t_counter_primitive 19 q_8.2.1, aJ g h_t_counter_reached 18 q_8.2.2.1, aJ g h_t_counter_arrived 6 q_8.2.2.2] → va_S A s.heap H locs → lv_has ls 2 [(1, .int z_13), (0, .ref h_t)] → W p l e (rmv 5 125) s m args below meth c H locs 0 0 Q (F0 m 13 ls []) := by
    intro n
    induction n with
    | zero => intro z_13 hn; exact (it_zero hn).elim
    | succ n ih =>
      intro z_13 hn H locs ls hP hD hS hl
      obtain ⟨x, hM, hX⟩ := it_succ hn
      clear hn
      refine lv_iload_n hx hb dX8_girth_13 rfl (lv_at hl 0 rfl) ?_
      refine lv_bipush (v := (nI 18)) hx hb dX8_girth_14 (by decide) ?_
      refine lv_icmp_gt (tgt := 41) hx hb dX8_girth_16 (by decide) (fun c_16 => ?_) (fun c_16 => ?_)
      · have hM := if_t hM c_16
        obtain rfl := Option.some.inj hM
        obtain rfl : _ = r_13 := hX
        exact hE_13_1 _ rfl _ _ _ hP hD hS (lv_sub hl [] rfl)
      · have hM := if_f hM c_16
        refine lv_aload_n hx hb dX8_girth_19 rfl (lv_at hl 1 rfl) ?_
        refine w_get cx hP 0 8 5 rfl rfl (by decide) m_208 rfl rfl dX8_girth_20 ?_
        refine w_getN cx hP 5 7 2 rfl rfl (by decide) n_140 rfl rfl dX8_girth_23 ?_
        refine lv_iload_n hx hb dX8_girth_26 rfl (lv_at hl 0 rfl) ?_
        obtain ⟨g_27, hM⟩ := gd_some hM
        refine w_lald cx hP 7 rfl g_27 dX8_girth_27 ?_
        refine lv_lconst (v := (0 : Int64)) hx hb dX8_girth_28 (by decide) ?_
        refine W.lcmp hx hb dX8_girth_29 ?_
        refine lv_if_eq (tgt := 35) hx hb dX8_girth_30 (by decide) (fun c_30 => ?_) (fun c_30 => ?_)
        · have hM := if_t hM c_30
          refine lv_iinc (v := z_13 + (nI 1)) (lv' := [(1, .int (z_13 + (nI 1))), (0, .ref h_t)]) hx hb dX8_girth_35 hl (k := 0) rfl (congrArg (fun q => z_13 + q) (show Int32.ofInt (1) = (nI 1) by decide)) (by decide) rfl (fun ls hl => ?_)
          refine lv_goto (tgt := 13) hx hb dX8_girth_38 (by decide) ?_
          obtain rfl := Option.some.inj hM
          exact ih _ hX _ _ _ hP hD hS (lv_sub hl [0, 1] rfl)
        · have hM := if_f hM c_30
          obtain rfl := Option.some.inj hM
          obtain rfl : _ = r_13 := hX
          exact hE_13_0 _ rfl _ _ _ hP hD hS (lv_sub hl [0] rfl)
  exact hL_13 n _ hn _ _ _ hP hD hS (lv_sub hl [0, 1] rfl)
noncomputable def b_X8_period_15 (q_8 : (Nat → Int64) × (Nat → Int64) × (Nat → Int64) × (Nat → Int64)) : Int32 × Int32 → Option ((Int32 × Int32) ⊕ ((Int32))) := fun z_15 =>
  if (nI 18) < z_15.1 then some (.inr z_15.2) else gd (inb z_15.1 19) (if (lg_cmp (q_8.2.1 z_15.1.toNatClampNeg) (0 : Int64)) = 0 then some (.inl (z_15.1 + (nI 1), z_15.2)) else bd (f_X8_commonDivisor z_15.1 z_15.2) (fun (q_37 : Int32) => some (.inl (z_15.1 + (nI 1), q_37))))
noncomputable def f_X8_period (t_graph_vertices : Int32) (t_graph_edges : Int32) (a_t_graph_firsts : Nat → Int32) (a_t_graph_seconds : Nat → Int32) (a_t_graph_signs : Nat → Int32) (a_t_counter_closed : Nat → Int64) (a_t_counter_primitive : Nat → Int64) (a_t_counter_reached : Nat → Int64) (a_t_counter_arrived : Nat → Int64) : Option (Int32 × (Nat → Int64) × (Nat → Int64) × (Nat → Int64) × (Nat → Int64)) :=
  bd (f_X7_countPrimitive a_t_counter_closed a_t_counter_primitive a_t_counter_reached a_t_counter_arrived t_graph_vertices t_graph_edges a_t_graph_firsts a_t_graph_seconds a_t_graph_signs) (fun (q_8 : (Nat → Int64) × (Nat → Int64) × (Nat → Int64) × (Nat → Int64)) => bd (wh (b_X8_period_15 q_8) ((nI 1), (nI 0))) (fun (r_15 : Int32) => if r_15 = 0 then some ((nI 4294967287), q_8.1, q_8.2.1, q_8.2.2.1, q_8.2.2.2) else some (r_15, q_8.1, q_8.2.1, q_8.2.2.1, q_8.2.2.2)))
theorem yq_X8_period : yq yX8_period 0 := by unfold yq; decide +kernel
set_option maxHeartbeats 4000000 in
set_option maxRecDepth 100000 in
theorem c_X8_period (g : GG) (l : Launch) (h_t : Nat) (h_t_graph : Nat) (h_t_draft : Nat) (h_t_history : Nat) (h_t_text : Nat) (h_t_grouping : Nat) (h_t_counter : Nat) (h_t_search : Nat) (h_t_edgePolynomial : Nat) (h_t_vertexPolynomial : Nat) (h_t_graph_firsts : Nat) (h_t_graph_seconds : Nat) (h_t_graph_signs : Nat) (h_t_counter_closed : Nat) (h_t_counter_closedSigned : Nat) (h_t_counter_primitive : Nat) (h_t_counter_primitiveSigned : Nat) (h_t_counter_reached : Nat) (h_t_counter_arrived : Nat) (t_graph_vertices : Int32) (t_graph_edges : Int32) (a_t_graph_firsts : Nat → Int32) (a_t_graph_seconds : Nat → Int32) (a_t_graph_signs : Nat → Int32) (a_t_counter_closed : Nat → Int64) (a_t_counter_primitive : Nat → Int64) (a_t_counter_reached : Nat → Int64) (a_t_counter_arrived : Nat → Int64) {R : Int32 × (Nat → Int64) × (Nat → Int64) × (Nat → Int64) × (Nat → Int64)} (hM : f_X8_period t_graph_vertices t_graph_edges a_t_graph_firsts a_t_graph_seconds a_t_graph_signs a_t_counter_closed a_t_counter_primitive a_t_counter_reached a_t_counter_arrived = some R) : CT g l yX8_period cX8_period 3 (some .int) 5 125 [.ref h_t] [ob h_t 8 [.ref h_t_graph, .ref h_t_draft, .ref h_t_history, .ref h_t_text, .ref h_t_grouping, .ref h_t_counter, .ref h_t_search, .ref h_t_edgePolynomial, .ref h_t_vertexPolynomial], ob h_t_graph 2 [.int t_graph_vertices, .int t_graph_edges, .ref h_t_graph_firsts, .ref h_t_graph_seconds, .ref h_t_graph_signs], aI g h_t_graph_firsts 9 a_t_graph_firsts, aI g h_t_graph_seconds 9 a_t_graph_seconds, aI g h_t_graph_signs 9 a_t_graph_signs, ob h_t_counter 7 [.ref h_t_counter_closed, .ref h_t_counter_closedSigned, .ref h_t_counter_primitive, .ref h_t_counter_primitiveSigned, .ref h_t_counter_reached, .ref h_t_counter_arrived], aJ g h_t_counter_closed 19 a_t_counter_closed, aJ g h_t_counter_primitive 19 a_t_counter_primitive, aJ g h_t_counter_reached 18 a_t_counter_reached, aJ g h_t_counter_arrived 6 a_t_counter_arrived] [ob h_t 8 [.ref h_t_graph, .ref h_t_draft, .ref h_t_history, .ref h_t_text, .ref h_t_grouping, .ref h_t_counter, .ref h_t_search, .ref h_t_edgePolynomial, .ref h_t_vertexPolynomial], ob h_t_graph 2 [.int t_graph_vertices, .int t_graph_edges, .ref h_t_graph_firsts, .ref h_t_graph_seconds, .ref h_t_graph_signs], aI g h_t_graph_firsts 9 a_t_graph_firsts, aI g h_t_graph_seconds 9 a_t_graph_seconds, aI g h_t_graph_signs 9 a_t_graph_signs, ob h_t_counter 7 [.ref h_t_counter_closed, .ref h_t_counter_closedSigned, .ref h_t_counter_primitive, .ref h_t_counter_primitiveSigned, .ref h_t_counter_reached, .ref h_t_counter_arrived], aJ g h_t_counter_closed 19 R.2.1, aJ g h_t_counter_primitive 19 R.2.2.1, aJ g h_t_counter_reached 18 R.2.2.2.1, aJ g h_t_counter_arrived 6 R.2.2.2.2] (some (.int R.1)) := by
  refine ct_i (by decide +kernel) (Nat.le_of_ble_eq_true rfl) ?_
  intro p e s m args below meth c Q A ls cx hP hD hA hl hfin
  obtain ⟨hx, hb, hml, hown, hts, hK⟩ := id cx
  have hl : lv_has ls 3 [(0, .ref h_t)] := hl
  have hS : va_S A s.heap s.heap [] := va_S.rf
  refine lv_aload_n hx hb dX8_period_0 rfl (lv_at hl 0 rfl) ?_
  refine w_get cx hP 0 8 5 rfl rfl (by decide) m_208 rfl rfl dX8_period_1 ?_
  refine lv_aload_n hx hb dX8_period_4 rfl (lv_at hl 0 rfl) ?_
  refine w_get cx hP 0 8 0 rfl rfl (by decide) m_203 rfl rfl dX8_period_5 ?_
  obtain ⟨q_8, hc_8, hM⟩ := bd_some hM
  refine w_callV cx hP hD hS hA (c_X7_countPrimitive g l h_t_counter h_t_counter_closed h_t_counter_closedSigned h_t_counter_primitive h_t_counter_primitiveSigned h_t_counter_reached h_t_counter_arrived h_t_graph h_t_graph_firsts h_t_graph_seconds h_t_graph_signs a_t_counter_closed a_t_counter_primitive a_t_counter_reached a_t_counter_arrived t_graph_vertices t_graph_edges a_t_graph_firsts a_t_graph_seconds a_t_graph_signs hc_8) [5, 6, 7, 8, 9, 1, 2, 3, 4] rfl (by decide) rfl [ob h_t 8 [.ref h_t_graph, .ref h_t_draft, .ref h_t_history, .ref h_t_text, .ref h_t_grouping, .ref h_t_counter, .ref h_t_search, .ref h_t_edgePolynomial, .ref h_t_vertexPolynomial], ob h_t_graph 2 [.int t_graph_vertices, .int t_graph_edges, .ref h_t_graph_firsts, .ref h_t_graph_seconds, .ref h_t_graph_signs], aI g h_t_graph_firsts 9 a_t_graph_firsts, aI g h_t_graph_seconds 9 a_t_graph_seconds, aI g h_t_graph_signs 9 a_t_graph_signs, ob h_t_counter 7 [.ref h_t_counter_closed, .ref h_t_counter_closedSigned, .ref h_t_counter_primitive, .ref h_t_counter_primitiveSigned, .ref h_t_counter_reached, .ref h_t_counter_arrived], aJ g h_t_counter_closed 19 q_8.1, aJ g h_t_counter_primitive 19 q_8.2.1, aJ g h_t_counter_reached 18 q_8.2.2.1, aJ g h_t_counter_arrived 6 q_8.2.2.2] rfl 5 7 rfl rfl yq_X7_countPrimitive rfl m_454 m_455 m_456 m_22 m_457 ⟨Nat.le_of_ble_eq_true rfl, Nat.le_of_ble_eq_true rfl⟩ rfl rfl hl.1 (Nat.le_of_ble_eq_true rfl) dX8_period_8 ⟨Nat.le_refl 0, Nat.le_refl 0⟩ rfl (fun H locs hP hD hS => ?_)
  refine lv_iconst (v := (nI 0)) hx hb dX8_period_11 (by decide) ?_
  refine lv_istore_n (lv' := [(1, .int (nI 0)), (0, .ref h_t)]) hx hb dX8_period_12 rfl hl (by decide) rfl (fun ls hl => ?_)
  refine lv_iconst (v := (nI 1)) hx hb dX8_period_13 (by decide) ?_
  refine lv_istore_n (lv' := [(2, .int (nI 1)), (1, .int (nI 0)), (0, .ref h_t)]) hx hb dX8_period_14 rfl hl (by decide) rfl (fun ls hl => ?_)
  obtain ⟨r_15, hw, hM⟩ := bd_some hM
  obtain ⟨n, hn⟩ := wh_some hw
  clear hw
  have hE_15_0 : ∀ (H : Heap) (locs : List Loc) (ls : Array Slot), va_P (gD g) vwCl [ob h_t 8 [.ref h_t_graph, .ref h_t_draft, .ref h_t_history, .ref h_t_text, .ref h_t_grouping, .ref h_t_counter, .ref h_t_search, .ref h_t_edgePolynomial, .ref h_t_vertexPolynomial], ob h_t_graph 2 [.int t_graph_vertices, .int t_graph_edges, .ref h_t_graph_firsts, .ref h_t_graph_seconds, .ref h_t_graph_signs], aI g h_t_graph_firsts 9 a_t_graph_firsts, aI g h_t_graph_seconds 9 a_t_graph_seconds, aI g h_t_graph_signs 9 a_t_graph_signs, ob h_t_counter 7 [.ref h_t_counter_closed, .ref h_t_counter_closedSigned, .ref h_t_counter_primitive, .ref h_t_counter_primitiveSigned, .ref h_t_counter_reached, .ref h_t_counter_arrived], aJ g h_t_counter_closed 19 q_8.1, aJ g h_t_counter_primitive 19 q_8.2.1, aJ g h_t_counter_reached 18 q_8.2.2.1, aJ g h_t_counter_arrived 6 q_8.2.2.2] H → va_D A [ob h_t 8 [.ref h_t_graph, .ref h_t_draft, .ref h_t_history, .ref h_t_text, .ref h_t_grouping, .ref h_t_counter, .ref h_t_search, .ref h_t_edgePolynomial, .ref h_t_vertexPolynomial], ob h_t_graph 2 [.int t_graph_vertices, .int t_graph_edges, .ref h_t_graph_firsts, .ref h_t_graph_seconds, .ref h_t_graph_signs], aI g h_t_graph_firsts 9 a_t_graph_firsts, aI g h_t_graph_seconds 9 a_t_graph_seconds, aI g h_t_graph_signs 9 a_t_graph_signs, ob h_t_counter 7 [.ref h_t_counter_closed, .ref h_t_counter_closedSigned, .ref h_t_counter_primitive, .ref h_t_counter_primitiveSigned, .ref h_t_counter_reached, .ref h_t_counter_arrived], aJ g h_t_counter_closed 19 q_8.1, aJ g h_t_counter_primitive 19 q_8.2.1, aJ g h_t_counter_reached 18 q_8.2.2.1, aJ g h_t_counter_arrived 6 q_8.2.2.2] → va_S A s.heap H locs → lv_has ls 3 [(1, .int r_15)] → W p l e (rmv 5 125) s m args below meth c H locs 0 0 Q (F0 m 47 ls []) := by
    intro H locs ls hP hD hS hl
    refine lv_iload_n hx hb dX8_period_47 rfl (lv_at hl 0 rfl) ?_
    refine lv_if_ne (tgt := 56) hx hb dX8_period_48 (by decide) (fun c_48 => ?_) (fun c_48 => ?_)
    · have hM := if_f hM c_48
      refine lv_iload_n hx hb dX8_period_56 rfl (lv_at hl 0 rfl) ?_
      obtain rfl := Option.some.inj hM
      exact hfin 57 _ _ _ dX8_period_57 hP hD hS
    · have hM := if_t hM c_48
      refine lv_bipush (v := (nI 4294967287)) hx hb dX8_period_51 (by decide) ?_
      refine lv_goto (tgt := 57) hx hb dX8_period_53 (by decide) ?_
      obtain rfl := Option.some.inj hM
      exact hfin 57 _ _ _ dX8_period_57 hP hD hS
  clear hM
  have hL_15 : ∀ (n : Nat) (z_15 : Int32 × Int32), it (b_X8_period_15 q_8) n z_15 = some r_15 → ∀ (H : Heap) (locs : List Loc) (ls : Array Slot), va_P (gD g) vwCl [ob h_t 8 [.ref h_t_graph, .ref h_t_draft, .ref h_t_history, .ref h_t_text, .ref h_t_grouping, .ref h_t_counter, .ref h_t_search, .ref h_t_edgePolynomial, .ref h_t_vertexPolynomial], ob h_t_graph 2 [.int t_graph_vertices, .int t_graph_edges, .ref h_t_graph_firsts, .ref h_t_graph_seconds, .ref h_t_graph_signs], aI g h_t_graph_firsts 9 a_t_graph_firsts, aI g h_t_graph_seconds 9 a_t_graph_seconds, aI g h_t_graph_signs 9 a_t_graph_signs, ob h_t_counter 7 [.ref h_t_counter_closed, .ref h_t_counter_closedSigned, .ref h_t_counter_primitive, .ref h_t_counter_primitiveSigned, .ref h_t_counter_reached, .ref h_t_counter_arrived], aJ g h_t_counter_closed 19 q_8.1, aJ g h_t_counter_primitive 19 q_8.2.1, aJ g h_t_counter_reached 18 q_8.2.2.1, aJ g h_t_counter_arrived 6 q_8.2.2.2] H → va_D A [ob h_t 8 [.ref h_t_graph, .ref h_t_draft, .ref h_t_history, .ref h_t_text, .ref h_t_grouping, .ref h_t_counter, .ref h_t_search, .ref h_t_edgePolynomial, .ref h_t_vertexPolynomial], ob h_t_graph 2 [.int t_graph_vertices, .int t_graph_edges, .ref h_t_graph_firsts, .ref h_t_graph_seconds, .ref h_t_graph_signs], aI g h_t_graph_firsts 9 a_t_graph_firsts, aI g h_t_graph_seconds 9 a_t_graph_seconds, aI g h_t_graph_signs 9 a_t_graph_signs, ob h_t_counter 7 [.ref h_t_counter_closed, .ref h_t_counter_closedSigned, .ref h_t_counter_primitive, .ref h_t_counter_primitiveSigned, .ref h_t_counter_reached, .ref h_t_counter_arrived], aJ g h_t_counter_closed 19 q_8.1, aJ g h_t_counter_primitive 19 q_8.2.1, aJ g h_t_counter_reached 18 q_8.2.2.1, aJ g h_t_counter_arrived 6 q_8.2.2.2] → va_S A s.heap H locs → lv_has ls 3 [(2, .int z_15.1), (1, .int z_15.2), (0, .ref h_t)] → W p l e (rmv 5 125) s m args below meth c H locs 0 0 Q (F0 m 15 ls []) := by
    intro n
    induction n with
    | zero => intro z_15 hn; exact (it_zero hn).elim
    | succ n ih =>
      intro z_15 hn H locs ls hP hD hS hl
      obtain ⟨x, hM, hX⟩ := it_succ hn
      clear hn
      refine lv_iload_n hx hb dX8_period_15 rfl (lv_at hl 0 rfl) ?_
      refine lv_bipush (v := (nI 18)) hx hb dX8_period_16 (by decide) ?_
      refine lv_icmp_gt (tgt := 47) hx hb dX8_period_18 (by decide) (fun c_18 => ?_) (fun c_18 => ?_)
      · have hM := if_t hM c_18
        obtain rfl := Option.some.inj hM
        obtain rfl : _ = r_15 := hX
        exact hE_15_0 _ _ _ hP hD hS (lv_sub hl [1] rfl)
      · have hM := if_f hM c_18
        refine lv_aload_n hx hb dX8_period_21 rfl (lv_at hl 2 rfl) ?_
        refine w_get cx hP 0 8 5 rfl rfl (by decide) m_208 rfl rfl dX8_period_22 ?_
        refine w_getN cx hP 5 7 2 rfl rfl (by decide) n_140 rfl rfl dX8_period_25 ?_
        refine lv_iload_n hx hb dX8_period_28 rfl (lv_at hl 0 rfl) ?_
        obtain ⟨g_29, hM⟩ := gd_some hM
        refine w_lald cx hP 7 rfl g_29 dX8_period_29 ?_
        refine lv_lconst (v := (0 : Int64)) hx hb dX8_period_30 (by decide) ?_
        refine W.lcmp hx hb dX8_period_31 ?_
        refine lv_if_eq (tgt := 41) hx hb dX8_period_32 (by decide) (fun c_32 => ?_) (fun c_32 => ?_)
        · have hM := if_t hM c_32
          refine lv_iinc (v := z_15.1 + (nI 1)) (lv' := [(2, .int (z_15.1 + (nI 1))), (1, .int z_15.2), (0, .ref h_t)]) hx hb dX8_period_41 hl (k := 0) rfl (congrArg (fun q => z_15.1 + q) (show Int32.ofInt (1) = (nI 1) by decide)) (by decide) rfl (fun ls hl => ?_)
          refine lv_goto (tgt := 15) hx hb dX8_period_44 (by decide) ?_
          obtain rfl := Option.some.inj hM
          exact ih _ hX _ _ _ hP hD hS (lv_sub hl [0, 1, 2] rfl)
        · have hM := if_f hM c_32
          refine lv_iload_n hx hb dX8_period_35 rfl (lv_at hl 0 rfl) ?_
          refine lv_iload_n hx hb dX8_period_36 rfl (lv_at hl 1 rfl) ?_
          obtain ⟨q_37, hc_37, hM⟩ := bd_some hM
          refine w_callS cx hP hD hS hA (c_X8_commonDivisor g l z_15.1 z_15.2 hc_37) [] rfl (by decide) rfl [ob h_t 8 [.ref h_t_graph, .ref h_t_draft, .ref h_t_history, .ref h_t_text, .ref h_t_grouping, .ref h_t_counter, .ref h_t_search, .ref h_t_edgePolynomial, .ref h_t_vertexPolynomial], ob h_t_graph 2 [.int t_graph_vertices, .int t_graph_edges, .ref h_t_graph_firsts, .ref h_t_graph_seconds, .ref h_t_graph_signs], aI g h_t_graph_firsts 9 a_t_graph_firsts, aI g h_t_graph_seconds 9 a_t_graph_seconds, aI g h_t_graph_signs 9 a_t_graph_signs, ob h_t_counter 7 [.ref h_t_counter_closed, .ref h_t_counter_closedSigned, .ref h_t_counter_primitive, .ref h_t_counter_primitiveSigned, .ref h_t_counter_reached, .ref h_t_counter_arrived], aJ g h_t_counter_closed 19 q_8.1, aJ g h_t_counter_primitive 19 q_8.2.1, aJ g h_t_counter_reached 18 q_8.2.2.1, aJ g h_t_counter_arrived 6 q_8.2.2.2] rfl yq_X8_commonDivisor m_647 m_648 m_17 m_649 ⟨Nat.le_of_ble_eq_true rfl, Nat.le_of_ble_eq_true rfl⟩ rfl rfl hl.1 (Nat.le_of_ble_eq_true rfl) dX8_period_37 ⟨Nat.le_refl 0, Nat.le_refl 0⟩ rfl (fun H locs hP hD hS => ?_)
          refine lv_istore_n (lv' := [(1, .int q_37), (2, .int z_15.1), (0, .ref h_t)]) hx hb dX8_period_40 rfl hl (by decide) rfl (fun ls hl => ?_)
          refine lv_iinc (v := z_15.1 + (nI 1)) (lv' := [(2, .int (z_15.1 + (nI 1))), (1, .int q_37), (0, .ref h_t)]) hx hb dX8_period_41 hl (k := 1) rfl (congrArg (fun q => z_15.1 + q) (show Int32.ofInt (1) = (nI 1) by decide)) (by decide) rfl (fun ls hl => ?_)
          refine lv_goto (tgt := 15) hx hb dX8_period_44 (by decide) ?_
          obtain rfl := Option.some.inj hM
          exact ih _ hX _ _ _ hP hD hS (lv_sub hl [0, 1, 2] rfl)
  exact hL_15 n _ hn _ _ _ hP hD hS (lv_sub hl [0, 1, 2] rfl)
noncomputable def f_X8_makeEdgePolynomial (t_graph_vertices : Int32) (t_graph_edges : Int32) (a_t_graph_firsts : Nat → Int32) (a_t_graph_seconds : Nat → Int32) (a_t_graph_signs : Nat → Int32) (a_t_counter_closed : Nat → Int64) (a_t_counter_reached : Nat → Int64) (a_t_counter_arrived : Nat → Int64) (a_t_edgePolynomial_coefficients : Nat → Int64) : Option ((Nat → Int64) × (Nat → Int64) × (Nat → Int64) × (Nat → Int64)) :=
  bd (f_X7_countClosed a_t_counter_closed a_t_counter_reached a_t_counter_arrived t_graph_vertices t_graph_edges a_t_graph_firsts a_t_graph_seconds a_t_graph_signs) (fun (q_8 : (Nat → Int64) × (Nat → Int64) × (Nat → Int64)) => bd (f_X0_makeFrom a_t_edgePolynomial_coefficients 19 q_8.1) (fun (q_22 : Nat → Int64) => some (q_8.1, q_8.2.1, q_8.2.2, q_22)))
theorem yq_X8_makeEdgePolynomial : yq yX8_makeEdgePolynomial 0 := by unfold yq; decide +kernel
set_option maxHeartbeats 4000000 in
set_option maxRecDepth 100000 in
theorem c_X8_makeEdgePolynomial (g : GG) (l : Launch) (h_t : Nat) (h_t_graph : Nat) (h_t_draft : Nat) (h_t_history : Nat) (h_t_text : Nat) (h_t_grouping : Nat) (h_t_counter : Nat) (h_t_search : Nat) (h_t_edgePolynomial : Nat) (h_t_vertexPolynomial : Nat) (h_t_graph_firsts : Nat) (h_t_graph_seconds : Nat) (h_t_graph_signs : Nat) (h_t_counter_closed : Nat) (h_t_counter_closedSigned : Nat) (h_t_counter_primitive : Nat) (h_t_counter_primitiveSigned : Nat) (h_t_counter_reached : Nat) (h_t_counter_arrived : Nat) (h_t_edgePolynomial_coefficients : Nat) (h_t_edgePolynomial_work : Nat) (t_graph_vertices : Int32) (t_graph_edges : Int32) (a_t_graph_firsts : Nat → Int32) (a_t_graph_seconds : Nat → Int32) (a_t_graph_signs : Nat → Int32) (a_t_counter_closed : Nat → Int64) (a_t_counter_reached : Nat → Int64) (a_t_counter_arrived : Nat → Int64) (a_t_edgePolynomial_coefficients : Nat → Int64) {R : (Nat → Int64) × (Nat → Int64) × (Nat → Int64) × (Nat → Int64)} (hM : f_X8_makeEdgePolynomial t_graph_vertices t_graph_edges a_t_graph_firsts a_t_graph_seconds a_t_graph_signs a_t_counter_closed a_t_counter_reached a_t_counter_arrived a_t_edgePolynomial_coefficients = some R) : CT g l yX8_makeEdgePolynomial cX8_makeEdgePolynomial 1 none 4 102 [.ref h_t] [ob h_t 8 [.ref h_t_graph, .ref h_t_draft, .ref h_t_history, .ref h_t_text, .ref h_t_grouping, .ref h_t_counter, .ref h_t_search, .ref h_t_edgePolynomial, .ref h_t_vertexPolynomial], ob h_t_graph 2 [.int t_graph_vertices, .int t_graph_edges, .ref h_t_graph_firsts, .ref h_t_graph_seconds, .ref h_t_graph_signs], aI g h_t_graph_firsts 9 a_t_graph_firsts, aI g h_t_graph_seconds 9 a_t_graph_seconds, aI g h_t_graph_signs 9 a_t_graph_signs, ob h_t_counter 7 [.ref h_t_counter_closed, .ref h_t_counter_closedSigned, .ref h_t_counter_primitive, .ref h_t_counter_primitiveSigned, .ref h_t_counter_reached, .ref h_t_counter_arrived], aJ g h_t_counter_closed 19 a_t_counter_closed, aJ g h_t_counter_reached 18 a_t_counter_reached, aJ g h_t_counter_arrived 6 a_t_counter_arrived, ob h_t_edgePolynomial 0 [.ref h_t_edgePolynomial_coefficients, .ref h_t_edgePolynomial_work], aJ g h_t_edgePolynomial_coefficients 19 a_t_edgePolynomial_coefficients] [ob h_t 8 [.ref h_t_graph, .ref h_t_draft, .ref h_t_history, .ref h_t_text, .ref h_t_grouping, .ref h_t_counter, .ref h_t_search, .ref h_t_edgePolynomial, .ref h_t_vertexPolynomial], ob h_t_graph 2 [.int t_graph_vertices, .int t_graph_edges, .ref h_t_graph_firsts, .ref h_t_graph_seconds, .ref h_t_graph_signs], aI g h_t_graph_firsts 9 a_t_graph_firsts, aI g h_t_graph_seconds 9 a_t_graph_seconds, aI g h_t_graph_signs 9 a_t_graph_signs, ob h_t_counter 7 [.ref h_t_counter_closed, .ref h_t_counter_closedSigned, .ref h_t_counter_primitive, .ref h_t_counter_primitiveSigned, .ref h_t_counter_reached, .ref h_t_counter_arrived], aJ g h_t_counter_closed 19 R.1, aJ g h_t_counter_reached 18 R.2.1, aJ g h_t_counter_arrived 6 R.2.2.1, ob h_t_edgePolynomial 0 [.ref h_t_edgePolynomial_coefficients, .ref h_t_edgePolynomial_work], aJ g h_t_edgePolynomial_coefficients 19 R.2.2.2] none := by
  refine ct_v (by decide +kernel) (Nat.le_of_ble_eq_true rfl) ?_
  intro p e s m args below meth c Q A ls cx hP hD hA hl hfin
  obtain ⟨hx, hb, hml, hown, hts, hK⟩ := id cx
  have hl : lv_has ls 1 [(0, .ref h_t)] := hl
  have hS : va_S A s.heap s.heap [] := va_S.rf
  refine lv_aload_n hx hb dX8_makeEdgePolynomial_0 rfl (lv_at hl 0 rfl) ?_
  refine w_get cx hP 0 8 5 rfl rfl (by decide) m_208 rfl rfl dX8_makeEdgePolynomial_1 ?_
  refine lv_aload_n hx hb dX8_makeEdgePolynomial_4 rfl (lv_at hl 0 rfl) ?_
  refine w_get cx hP 0 8 0 rfl rfl (by decide) m_203 rfl rfl dX8_makeEdgePolynomial_5 ?_
  obtain ⟨q_8, hc_8, hM⟩ := bd_some hM
  refine w_callV cx hP hD hS hA (c_X7_countClosed g l h_t_counter h_t_counter_closed h_t_counter_closedSigned h_t_counter_primitive h_t_counter_primitiveSigned h_t_counter_reached h_t_counter_arrived h_t_graph h_t_graph_firsts h_t_graph_seconds h_t_graph_signs a_t_counter_closed a_t_counter_reached a_t_counter_arrived t_graph_vertices t_graph_edges a_t_graph_firsts a_t_graph_seconds a_t_graph_signs hc_8) [5, 6, 7, 8, 1, 2, 3, 4] rfl (by decide) rfl [ob h_t 8 [.ref h_t_graph, .ref h_t_draft, .ref h_t_history, .ref h_t_text, .ref h_t_grouping, .ref h_t_counter, .ref h_t_search, .ref h_t_edgePolynomial, .ref h_t_vertexPolynomial], ob h_t_graph 2 [.int t_graph_vertices, .int t_graph_edges, .ref h_t_graph_firsts, .ref h_t_graph_seconds, .ref h_t_graph_signs], aI g h_t_graph_firsts 9 a_t_graph_firsts, aI g h_t_graph_seconds 9 a_t_graph_seconds, aI g h_t_graph_signs 9 a_t_graph_signs, ob h_t_counter 7 [.ref h_t_counter_closed, .ref h_t_counter_closedSigned, .ref h_t_counter_primitive, .ref h_t_counter_primitiveSigned, .ref h_t_counter_reached, .ref h_t_counter_arrived], aJ g h_t_counter_closed 19 q_8.1, aJ g h_t_counter_reached 18 q_8.2.1, aJ g h_t_counter_arrived 6 q_8.2.2, ob h_t_edgePolynomial 0 [.ref h_t_edgePolynomial_coefficients, .ref h_t_edgePolynomial_work], aJ g h_t_edgePolynomial_coefficients 19 a_t_edgePolynomial_coefficients] rfl 5 7 rfl rfl yq_X7_countClosed rfl m_392 m_393 m_394 m_22 m_395 ⟨Nat.le_of_ble_eq_true rfl, Nat.le_of_ble_eq_true rfl⟩ rfl rfl hl.1 (Nat.le_of_ble_eq_true rfl) dX8_makeEdgePolynomial_8 ⟨Nat.le_refl 0, Nat.le_refl 0⟩ rfl (fun H locs hP hD hS => ?_)
  refine lv_aload_n hx hb dX8_makeEdgePolynomial_11 rfl (lv_at hl 0 rfl) ?_
  refine w_get cx hP 0 8 7 rfl rfl (by decide) m_210 rfl rfl dX8_makeEdgePolynomial_12 ?_
  refine lv_aload_n hx hb dX8_makeEdgePolynomial_15 rfl (lv_at hl 0 rfl) ?_
  refine w_get cx hP 0 8 5 rfl rfl (by decide) m_208 rfl rfl dX8_makeEdgePolynomial_16 ?_
  refine w_getN cx hP 5 7 0 rfl rfl (by decide) n_136 rfl rfl dX8_makeEdgePolynomial_19 ?_
  obtain ⟨q_22, hc_22, hM⟩ := bd_some hM
  refine w_callV cx hP hD hS hA (c_X0_makeFrom g l h_t_edgePolynomial h_t_edgePolynomial_coefficients h_t_edgePolynomial_work h_t_counter_closed a_t_edgePolynomial_coefficients 19 q_8.1 hc_22) [9, 10, 6] rfl (by decide) rfl [ob h_t 8 [.ref h_t_graph, .ref h_t_draft, .ref h_t_history, .ref h_t_text, .ref h_t_grouping, .ref h_t_counter, .ref h_t_search, .ref h_t_edgePolynomial, .ref h_t_vertexPolynomial], ob h_t_graph 2 [.int t_graph_vertices, .int t_graph_edges, .ref h_t_graph_firsts, .ref h_t_graph_seconds, .ref h_t_graph_signs], aI g h_t_graph_firsts 9 a_t_graph_firsts, aI g h_t_graph_seconds 9 a_t_graph_seconds, aI g h_t_graph_signs 9 a_t_graph_signs, ob h_t_counter 7 [.ref h_t_counter_closed, .ref h_t_counter_closedSigned, .ref h_t_counter_primitive, .ref h_t_counter_primitiveSigned, .ref h_t_counter_reached, .ref h_t_counter_arrived], aJ g h_t_counter_closed 19 q_8.1, aJ g h_t_counter_reached 18 q_8.2.1, aJ g h_t_counter_arrived 6 q_8.2.2, ob h_t_edgePolynomial 0 [.ref h_t_edgePolynomial_coefficients, .ref h_t_edgePolynomial_work], aJ g h_t_edgePolynomial_coefficients 19 q_22] rfl 9 0 rfl rfl yq_X0_makeFrom rfl m_509 m_510 m_511 m_24 m_512 ⟨Nat.le_of_ble_eq_true rfl, Nat.le_of_ble_eq_true rfl⟩ rfl rfl hl.1 (Nat.le_of_ble_eq_true rfl) dX8_makeEdgePolynomial_22 ⟨Nat.le_refl 0, Nat.le_refl 0⟩ rfl (fun H locs hP hD hS => ?_)
  obtain rfl := Option.some.inj hM
  exact hfin 25 _ _ _ dX8_makeEdgePolynomial_25 hP hD hS
noncomputable def f_X8_edgeCoefficient (p1 : Int32) (t_graph_vertices : Int32) (t_graph_edges : Int32) (a_t_graph_firsts : Nat → Int32) (a_t_graph_seconds : Nat → Int32) (a_t_graph_signs : Nat → Int32) (a_t_counter_closed : Nat → Int64) (a_t_counter_reached : Nat → Int64) (a_t_counter_arrived : Nat → Int64) (a_t_edgePolynomial_coefficients : Nat → Int64) : Option (Int64 × (Nat → Int64) × (Nat → Int64) × (Nat → Int64) × (Nat → Int64)) :=
  bd (f_X8_isIndex p1 (nI 18)) (fun (q_3 : Int32) => if q_3 = 0 then some ((-9223372036854775808 : Int64), a_t_counter_closed, a_t_counter_reached, a_t_counter_arrived, a_t_edgePolynomial_coefficients) else bd (f_X8_makeEdgePolynomial t_graph_vertices t_graph_edges a_t_graph_firsts a_t_graph_seconds a_t_graph_signs a_t_counter_closed a_t_counter_reached a_t_counter_arrived a_t_edgePolynomial_coefficients) (fun (q_14 : (Nat → Int64) × (Nat → Int64) × (Nat → Int64) × (Nat → Int64)) => gd (inb p1 19) (some (q_14.2.2.2 p1.toNatClampNeg, q_14.1, q_14.2.1, q_14.2.2.1, q_14.2.2.2))))
theorem yq_X8_edgeCoefficient : yq yX8_edgeCoefficient 1 := by unfold yq; decide +kernel
set_option maxHeartbeats 4000000 in
set_option maxRecDepth 100000 in
theorem c_X8_edgeCoefficient (g : GG) (l : Launch) (h_t : Nat) (h_t_graph : Nat) (h_t_draft : Nat) (h_t_history : Nat) (h_t_text : Nat) (h_t_grouping : Nat) (h_t_counter : Nat) (h_t_search : Nat) (h_t_edgePolynomial : Nat) (h_t_vertexPolynomial : Nat) (h_t_graph_firsts : Nat) (h_t_graph_seconds : Nat) (h_t_graph_signs : Nat) (h_t_counter_closed : Nat) (h_t_counter_closedSigned : Nat) (h_t_counter_primitive : Nat) (h_t_counter_primitiveSigned : Nat) (h_t_counter_reached : Nat) (h_t_counter_arrived : Nat) (h_t_edgePolynomial_coefficients : Nat) (h_t_edgePolynomial_work : Nat) (p1 : Int32) (t_graph_vertices : Int32) (t_graph_edges : Int32) (a_t_graph_firsts : Nat → Int32) (a_t_graph_seconds : Nat → Int32) (a_t_graph_signs : Nat → Int32) (a_t_counter_closed : Nat → Int64) (a_t_counter_reached : Nat → Int64) (a_t_counter_arrived : Nat → Int64) (a_t_edgePolynomial_coefficients : Nat → Int64) {R : Int64 × (Nat → Int64) × (Nat → Int64) × (Nat → Int64) × (Nat → Int64)} (hM : f_X8_edgeCoefficient p1 t_graph_vertices t_graph_edges a_t_graph_firsts a_t_graph_seconds a_t_graph_signs a_t_counter_closed a_t_counter_reached a_t_counter_arrived a_t_edgePolynomial_coefficients = some R) : CT g l yX8_edgeCoefficient cX8_edgeCoefficient 2 (some .long) 5 122 [.ref h_t, .int p1] [ob h_t 8 [.ref h_t_graph, .ref h_t_draft, .ref h_t_history, .ref h_t_text, .ref h_t_grouping, .ref h_t_counter, .ref h_t_search, .ref h_t_edgePolynomial, .ref h_t_vertexPolynomial], ob h_t_graph 2 [.int t_graph_vertices, .int t_graph_edges, .ref h_t_graph_firsts, .ref h_t_graph_seconds, .ref h_t_graph_signs], aI g h_t_graph_firsts 9 a_t_graph_firsts, aI g h_t_graph_seconds 9 a_t_graph_seconds, aI g h_t_graph_signs 9 a_t_graph_signs, ob h_t_counter 7 [.ref h_t_counter_closed, .ref h_t_counter_closedSigned, .ref h_t_counter_primitive, .ref h_t_counter_primitiveSigned, .ref h_t_counter_reached, .ref h_t_counter_arrived], aJ g h_t_counter_closed 19 a_t_counter_closed, aJ g h_t_counter_reached 18 a_t_counter_reached, aJ g h_t_counter_arrived 6 a_t_counter_arrived, ob h_t_edgePolynomial 0 [.ref h_t_edgePolynomial_coefficients, .ref h_t_edgePolynomial_work], aJ g h_t_edgePolynomial_coefficients 19 a_t_edgePolynomial_coefficients] [ob h_t 8 [.ref h_t_graph, .ref h_t_draft, .ref h_t_history, .ref h_t_text, .ref h_t_grouping, .ref h_t_counter, .ref h_t_search, .ref h_t_edgePolynomial, .ref h_t_vertexPolynomial], ob h_t_graph 2 [.int t_graph_vertices, .int t_graph_edges, .ref h_t_graph_firsts, .ref h_t_graph_seconds, .ref h_t_graph_signs], aI g h_t_graph_firsts 9 a_t_graph_firsts, aI g h_t_graph_seconds 9 a_t_graph_seconds, aI g h_t_graph_signs 9 a_t_graph_signs, ob h_t_counter 7 [.ref h_t_counter_closed, .ref h_t_counter_closedSigned, .ref h_t_counter_primitive, .ref h_t_counter_primitiveSigned, .ref h_t_counter_reached, .ref h_t_counter_arrived], aJ g h_t_counter_closed 19 R.2.1, aJ g h_t_counter_reached 18 R.2.2.1, aJ g h_t_counter_arrived 6 R.2.2.2.1, ob h_t_edgePolynomial 0 [.ref h_t_edgePolynomial_coefficients, .ref h_t_edgePolynomial_work], aJ g h_t_edgePolynomial_coefficients 19 R.2.2.2.2] (some (.long R.1)) := by
  refine ct_l (by decide +kernel) (Nat.le_of_ble_eq_true rfl) ?_
  intro p e s m args below meth c Q A ls cx hP hD hA hl hfin
  obtain ⟨hx, hb, hml, hown, hts, hK⟩ := id cx
  have hl : lv_has ls 2 [(0, .ref h_t), (1, .int p1)] := hl
  have hS : va_S A s.heap s.heap [] := va_S.rf
  refine lv_iload_n hx hb dX8_edgeCoefficient_0 rfl (lv_at hl 1 rfl) ?_
  refine lv_bipush (v := (nI 18)) hx hb dX8_edgeCoefficient_1 (by decide) ?_
  obtain ⟨q_3, hc_3, hM⟩ := bd_some hM
  refine w_callS cx hP hD hS hA (c_X8_isIndex g l p1 (nI 18) hc_3) [] rfl (by decide) rfl [ob h_t 8 [.ref h_t_graph, .ref h_t_draft, .ref h_t_history, .ref h_t_text, .ref h_t_grouping, .ref h_t_counter, .ref h_t_search, .ref h_t_edgePolynomial, .ref h_t_vertexPolynomial], ob h_t_graph 2 [.int t_graph_vertices, .int t_graph_edges, .ref h_t_graph_firsts, .ref h_t_graph_seconds, .ref h_t_graph_signs], aI g h_t_graph_firsts 9 a_t_graph_firsts, aI g h_t_graph_seconds 9 a_t_graph_seconds, aI g h_t_graph_signs 9 a_t_graph_signs, ob h_t_counter 7 [.ref h_t_counter_closed, .ref h_t_counter_closedSigned, .ref h_t_counter_primitive, .ref h_t_counter_primitiveSigned, .ref h_t_counter_reached, .ref h_t_counter_arrived], aJ g h_t_counter_closed 19 a_t_counter_closed, aJ g h_t_counter_reached 18 a_t_counter_reached, aJ g h_t_counter_arrived 6 a_t_counter_arrived, ob h_t_edgePolynomial 0 [.ref h_t_edgePolynomial_coefficients, .ref h_t_edgePolynomial_work], aJ g h_t_edgePolynomial_coefficients 19 a_t_edgePolynomial_coefficients] rfl yq_X8_isIndex m_502 m_503 m_17 m_504 ⟨Nat.le_of_ble_eq_true rfl, Nat.le_of_ble_eq_true rfl⟩ rfl rfl hl.1 (Nat.le_of_ble_eq_true rfl) dX8_edgeCoefficient_3 ⟨Nat.le_refl 0, Nat.le_refl 0⟩ rfl (fun H locs hP hD hS => ?_)
  refine lv_if_ne (tgt := 13) hx hb dX8_edgeCoefficient_6 (by decide) (fun c_6 => ?_) (fun c_6 => ?_)
  · have hM := if_f hM c_6
    refine lv_aload_n hx hb dX8_edgeCoefficient_13 rfl (lv_at hl 0 rfl) ?_
    obtain ⟨q_14, hc_14, hM⟩ := bd_some hM
    refine w_callV cx hP hD hS hA (c_X8_makeEdgePolynomial g l h_t h_t_graph h_t_draft h_t_history h_t_text h_t_grouping h_t_counter h_t_search h_t_edgePolynomial h_t_vertexPolynomial h_t_graph_firsts h_t_graph_seconds h_t_graph_signs h_t_counter_closed h_t_counter_closedSigned h_t_counter_primitive h_t_counter_primitiveSigned h_t_counter_reached h_t_counter_arrived h_t_edgePolynomial_coefficients h_t_edgePolynomial_work t_graph_vertices t_graph_edges a_t_graph_firsts a_t_graph_seconds a_t_graph_signs a_t_counter_closed a_t_counter_reached a_t_counter_arrived a_t_edgePolynomial_coefficients hc_14) [0, 1, 2, 3, 4, 5, 6, 7, 8, 9, 10] rfl (by decide) rfl [ob h_t 8 [.ref h_t_graph, .ref h_t_draft, .ref h_t_history, .ref h_t_text, .ref h_t_grouping, .ref h_t_counter, .ref h_t_search, .ref h_t_edgePolynomial, .ref h_t_vertexPolynomial], ob h_t_graph 2 [.int t_graph_vertices, .int t_graph_edges, .ref h_t_graph_firsts, .ref h_t_graph_seconds, .ref h_t_graph_signs], aI g h_t_graph_firsts 9 a_t_graph_firsts, aI g h_t_graph_seconds 9 a_t_graph_seconds, aI g h_t_graph_signs 9 a_t_graph_signs, ob h_t_counter 7 [.ref h_t_counter_closed, .ref h_t_counter_closedSigned, .ref h_t_counter_primitive, .ref h_t_counter_primitiveSigned, .ref h_t_counter_reached, .ref h_t_counter_arrived], aJ g h_t_counter_closed 19 q_14.1, aJ g h_t_counter_reached 18 q_14.2.1, aJ g h_t_counter_arrived 6 q_14.2.2.1, ob h_t_edgePolynomial 0 [.ref h_t_edgePolynomial_coefficients, .ref h_t_edgePolynomial_work], aJ g h_t_edgePolynomial_coefficients 19 q_14.2.2.2] rfl 0 8 rfl rfl yq_X8_makeEdgePolynomial rfl m_505 m_507 m_13 m_17 m_508 ⟨Nat.le_of_ble_eq_true rfl, Nat.le_of_ble_eq_true rfl⟩ rfl rfl hl.1 (Nat.le_of_ble_eq_true rfl) dX8_edgeCoefficient_14 ⟨Nat.le_refl 0, Nat.le_refl 0⟩ rfl (fun H locs hP hD hS => ?_)
    refine lv_aload_n hx hb dX8_edgeCoefficient_17 rfl (lv_at hl 0 rfl) ?_
    refine w_get cx hP 0 8 7 rfl rfl (by decide) m_210 rfl rfl dX8_edgeCoefficient_18 ?_
    refine w_getN cx hP 9 0 0 rfl rfl (by decide) n_180 rfl rfl dX8_edgeCoefficient_21 ?_
    refine lv_iload_n hx hb dX8_edgeCoefficient_24 rfl (lv_at hl 1 rfl) ?_
    obtain ⟨g_25, hM⟩ := gd_some hM
    refine w_lald cx hP 10 rfl g_25 dX8_edgeCoefficient_25 ?_
    obtain rfl := Option.some.inj hM
    exact hfin 26 _ _ _ dX8_edgeCoefficient_26 hP hD hS
  · have hM := if_t hM c_6
    refine lv_ldc2 hx hb hown (hts _ m_366) dX8_edgeCoefficient_9 ?_
    obtain rfl := Option.some.inj hM
    exact hfin 12 _ _ _ dX8_edgeCoefficient_12 hP hD hS
noncomputable def f_X8_signedCoefficient (p1 : Int32) (t_graph_vertices : Int32) (t_graph_edges : Int32) (a_t_graph_firsts : Nat → Int32) (a_t_graph_seconds : Nat → Int32) (a_t_graph_signs : Nat → Int32) (a_t_counter_closedSigned : Nat → Int64) (a_t_counter_reached : Nat → Int64) (a_t_counter_arrived : Nat → Int64) (a_t_edgePolynomial_coefficients : Nat → Int64) : Option (Int64 × (Nat → Int64) × (Nat → Int64) × (Nat → Int64) × (Nat → Int64)) :=
  bd (f_X8_isIndex p1 (nI 18)) (fun (q_3 : Int32) => if q_3 = 0 then some ((-9223372036854775808 : Int64), a_t_counter_closedSigned, a_t_counter_reached, a_t_counter_arrived, a_t_edgePolynomial_coefficients) else bd (f_X7_countClosedSigned a_t_counter_closedSigned a_t_counter_reached a_t_counter_arrived t_graph_vertices t_graph_edges a_t_graph_firsts a_t_graph_seconds a_t_graph_signs) (fun (q_21 : (Nat → Int64) × (Nat → Int64) × (Nat → Int64)) => bd (f_X0_makeFrom a_t_edgePolynomial_coefficients 19 q_21.1) (fun (q_35 : Nat → Int64) => gd (inb p1 19) (some (q_35 p1.toNatClampNeg, q_21.1, q_21.2.1, q_21.2.2, q_35)))))
theorem yq_X8_signedCoefficient : yq yX8_signedCoefficient 1 := by unfold yq; decide +kernel
set_option maxHeartbeats 4000000 in
set_option maxRecDepth 100000 in
theorem c_X8_signedCoefficient (g : GG) (l : Launch) (h_t : Nat) (h_t_graph : Nat) (h_t_draft : Nat) (h_t_history : Nat) (h_t_text : Nat) (h_t_grouping : Nat) (h_t_counter : Nat) (h_t_search : Nat) (h_t_edgePolynomial : Nat) (h_t_vertexPolynomial : Nat) (h_t_graph_firsts : Nat) (h_t_graph_seconds : Nat) (h_t_graph_signs : Nat) (h_t_counter_closed : Nat) (h_t_counter_closedSigned : Nat) (h_t_counter_primitive : Nat) (h_t_counter_primitiveSigned : Nat) (h_t_counter_reached : Nat) (h_t_counter_arrived : Nat) (h_t_edgePolynomial_coefficients : Nat) (h_t_edgePolynomial_work : Nat) (p1 : Int32) (t_graph_vertices : Int32) (t_graph_edges : Int32) (a_t_graph_firsts : Nat → Int32) (a_t_graph_seconds : Nat → Int32) (a_t_graph_signs : Nat → Int32) (a_t_counter_closedSigned : Nat → Int64) (a_t_counter_reached : Nat → Int64) (a_t_counter_arrived : Nat → Int64) (a_t_edgePolynomial_coefficients : Nat → Int64) {R : Int64 × (Nat → Int64) × (Nat → Int64) × (Nat → Int64) × (Nat → Int64)} (hM : f_X8_signedCoefficient p1 t_graph_vertices t_graph_edges a_t_graph_firsts a_t_graph_seconds a_t_graph_signs a_t_counter_closedSigned a_t_counter_reached a_t_counter_arrived a_t_edgePolynomial_coefficients = some R) : CT g l yX8_signedCoefficient cX8_signedCoefficient 2 (some .long) 4 102 [.ref h_t, .int p1] [ob h_t 8 [.ref h_t_graph, .ref h_t_draft, .ref h_t_history, .ref h_t_text, .ref h_t_grouping, .ref h_t_counter, .ref h_t_search, .ref h_t_edgePolynomial, .ref h_t_vertexPolynomial], ob h_t_graph 2 [.int t_graph_vertices, .int t_graph_edges, .ref h_t_graph_firsts, .ref h_t_graph_seconds, .ref h_t_graph_signs], aI g h_t_graph_firsts 9 a_t_graph_firsts, aI g h_t_graph_seconds 9 a_t_graph_seconds, aI g h_t_graph_signs 9 a_t_graph_signs, ob h_t_counter 7 [.ref h_t_counter_closed, .ref h_t_counter_closedSigned, .ref h_t_counter_primitive, .ref h_t_counter_primitiveSigned, .ref h_t_counter_reached, .ref h_t_counter_arrived], aJ g h_t_counter_closedSigned 19 a_t_counter_closedSigned, aJ g h_t_counter_reached 18 a_t_counter_reached, aJ g h_t_counter_arrived 6 a_t_counter_arrived, ob h_t_edgePolynomial 0 [.ref h_t_edgePolynomial_coefficients, .ref h_t_edgePolynomial_work], aJ g h_t_edgePolynomial_coefficients 19 a_t_edgePolynomial_coefficients] [ob h_t 8 [.ref h_t_graph, .ref h_t_draft, .ref h_t_history, .ref h_t_text, .ref h_t_grouping, .ref h_t_counter, .ref h_t_search, .ref h_t_edgePolynomial, .ref h_t_vertexPolynomial], ob h_t_graph 2 [.int t_graph_vertices, .int t_graph_edges, .ref h_t_graph_firsts, .ref h_t_graph_seconds, .ref h_t_graph_signs], aI g h_t_graph_firsts 9 a_t_graph_firsts, aI g h_t_graph_seconds 9 a_t_graph_seconds, aI g h_t_graph_signs 9 a_t_graph_signs, ob h_t_counter 7 [.ref h_t_counter_closed, .ref h_t_counter_closedSigned, .ref h_t_counter_primitive, .ref h_t_counter_primitiveSigned, .ref h_t_counter_reached, .ref h_t_counter_arrived], aJ g h_t_counter_closedSigned 19 R.2.1, aJ g h_t_counter_reached 18 R.2.2.1, aJ g h_t_counter_arrived 6 R.2.2.2.1, ob h_t_edgePolynomial 0 [.ref h_t_edgePolynomial_coefficients, .ref h_t_edgePolynomial_work], aJ g h_t_edgePolynomial_coefficients 19 R.2.2.2.2] (some (.long R.1)) := by
  refine ct_l (by decide +kernel) (Nat.le_of_ble_eq_true rfl) ?_
  intro p e s m args below meth c Q A ls cx hP hD hA hl hfin
  obtain ⟨hx, hb, hml, hown, hts, hK⟩ := id cx
  have hl : lv_has ls 2 [(0, .ref h_t), (1, .int p1)] := hl
  have hS : va_S A s.heap s.heap [] := va_S.rf
  refine lv_iload_n hx hb dX8_signedCoefficient_0 rfl (lv_at hl 1 rfl) ?_
  refine lv_bipush (v := (nI 18)) hx hb dX8_signedCoefficient_1 (by decide) ?_
  obtain ⟨q_3, hc_3, hM⟩ := bd_some hM
  refine w_callS cx hP hD hS hA (c_X8_isIndex g l p1 (nI 18) hc_3) [] rfl (by decide) rfl [ob h_t 8 [.ref h_t_graph, .ref h_t_draft, .ref h_t_history, .ref h_t_text, .ref h_t_grouping, .ref h_t_counter, .ref h_t_search, .ref h_t_edgePolynomial, .ref h_t_vertexPolynomial], ob h_t_graph 2 [.int t_graph_vertices, .int t_graph_edges, .ref h_t_graph_firsts, .ref h_t_graph_seconds, .ref h_t_graph_signs], aI g h_t_graph_firsts 9 a_t_graph_firsts, aI g h_t_graph_seconds 9 a_t_graph_seconds, aI g h_t_graph_signs 9 a_t_graph_signs, ob h_t_counter 7 [.ref h_t_counter_closed, .ref h_t_counter_closedSigned, .ref h_t_counter_primitive, .ref h_t_counter_primitiveSigned, .ref h_t_counter_reached, .ref h_t_counter_arrived], aJ g h_t_counter_closedSigned 19 a_t_counter_closedSigned, aJ g h_t_counter_reached 18 a_t_counter_reached, aJ g h_t_counter_arrived 6 a_t_counter_arrived, ob h_t_edgePolynomial 0 [.ref h_t_edgePolynomial_coefficients, .ref h_t_edgePolynomial_work], aJ g h_t_edgePolynomial_coefficients 19 a_t_edgePolynomial_coefficients] rfl yq_X8_isIndex m_502 m_503 m_17 m_504 ⟨Nat.le_of_ble_eq_true rfl, Nat.le_of_ble_eq_true rfl⟩ rfl rfl hl.1 (Nat.le_of_ble_eq_true rfl) dX8_signedCoefficient_3 ⟨Nat.le_refl 0, Nat.le_refl 0⟩ rfl (fun H locs hP hD hS => ?_)
  refine lv_if_ne (tgt := 13) hx hb dX8_signedCoefficient_6 (by decide) (fun c_6 => ?_) (fun c_6 => ?_)
  · have hM := if_f hM c_6
    refine lv_aload_n hx hb dX8_signedCoefficient_13 rfl (lv_at hl 0 rfl) ?_
    refine w_get cx hP 0 8 5 rfl rfl (by decide) m_208 rfl rfl dX8_signedCoefficient_14 ?_
    refine lv_aload_n hx hb dX8_signedCoefficient_17 rfl (lv_at hl 0 rfl) ?_
    refine w_get cx hP 0 8 0 rfl rfl (by decide) m_203 rfl rfl dX8_signedCoefficient_18 ?_
    obtain ⟨q_21, hc_21, hM⟩ := bd_some hM
    refine w_callV cx hP hD hS hA (c_X7_countClosedSigned g l h_t_counter h_t_counter_closed h_t_counter_closedSigned h_t_counter_primitive h_t_counter_primitiveSigned h_t_counter_reached h_t_counter_arrived h_t_graph h_t_graph_firsts h_t_graph_seconds h_t_graph_signs a_t_counter_closedSigned a_t_counter_reached a_t_counter_arrived t_graph_vertices t_graph_edges a_t_graph_firsts a_t_graph_seconds a_t_graph_signs hc_21) [5, 6, 7, 8, 1, 2, 3, 4] rfl (by decide) rfl [ob h_t 8 [.ref h_t_graph, .ref h_t_draft, .ref h_t_history, .ref h_t_text, .ref h_t_grouping, .ref h_t_counter, .ref h_t_search, .ref h_t_edgePolynomial, .ref h_t_vertexPolynomial], ob h_t_graph 2 [.int t_graph_vertices, .int t_graph_edges, .ref h_t_graph_firsts, .ref h_t_graph_seconds, .ref h_t_graph_signs], aI g h_t_graph_firsts 9 a_t_graph_firsts, aI g h_t_graph_seconds 9 a_t_graph_seconds, aI g h_t_graph_signs 9 a_t_graph_signs, ob h_t_counter 7 [.ref h_t_counter_closed, .ref h_t_counter_closedSigned, .ref h_t_counter_primitive, .ref h_t_counter_primitiveSigned, .ref h_t_counter_reached, .ref h_t_counter_arrived], aJ g h_t_counter_closedSigned 19 q_21.1, aJ g h_t_counter_reached 18 q_21.2.1, aJ g h_t_counter_arrived 6 q_21.2.2, ob h_t_edgePolynomial 0 [.ref h_t_edgePolynomial_coefficients, .ref h_t_edgePolynomial_work], aJ g h_t_edgePolynomial_coefficients 19 a_t_edgePolynomial_coefficients] rfl 5 7 rfl rfl yq_X7_countClosedSigned rfl m_367 m_368 m_369 m_22 m_370 ⟨Nat.le_of_ble_eq_true rfl, Nat.le_of_ble_eq_true rfl⟩ rfl rfl hl.1 (Nat.le_of_ble_eq_true rfl) dX8_signedCoefficient_21 ⟨Nat.le_refl 0, Nat.le_refl 0⟩ rfl (fun H locs hP hD hS => ?_)
    refine lv_aload_n hx hb dX8_signedCoefficient_24 rfl (lv_at hl 0 rfl) ?_
    refine w_get cx hP 0 8 7 rfl rfl (by decide) m_210 rfl rfl dX8_signedCoefficient_25 ?_
    refine lv_aload_n hx hb dX8_signedCoefficient_28 rfl (lv_at hl 0 rfl) ?_
    refine w_get cx hP 0 8 5 rfl rfl (by decide) m_208 rfl rfl dX8_signedCoefficient_29 ?_
    refine w_getN cx hP 5 7 1 rfl rfl (by decide) n_138 rfl rfl dX8_signedCoefficient_32 ?_
    obtain ⟨q_35, hc_35, hM⟩ := bd_some hM
    refine w_callV cx hP hD hS hA (c_X0_makeFrom g l h_t_edgePolynomial h_t_edgePolynomial_coefficients h_t_edgePolynomial_work h_t_counter_closedSigned a_t_edgePolynomial_coefficients 19 q_21.1 hc_35) [9, 10, 6] rfl (by decide) rfl [ob h_t 8 [.ref h_t_graph, .ref h_t_draft, .ref h_t_history, .ref h_t_text, .ref h_t_grouping, .ref h_t_counter, .ref h_t_search, .ref h_t_edgePolynomial, .ref h_t_vertexPolynomial], ob h_t_graph 2 [.int t_graph_vertices, .int t_graph_edges, .ref h_t_graph_firsts, .ref h_t_graph_seconds, .ref h_t_graph_signs], aI g h_t_graph_firsts 9 a_t_graph_firsts, aI g h_t_graph_seconds 9 a_t_graph_seconds, aI g h_t_graph_signs 9 a_t_graph_signs, ob h_t_counter 7 [.ref h_t_counter_closed, .ref h_t_counter_closedSigned, .ref h_t_counter_primitive, .ref h_t_counter_primitiveSigned, .ref h_t_counter_reached, .ref h_t_counter_arrived], aJ g h_t_counter_closedSigned 19 q_21.1, aJ g h_t_counter_reached 18 q_21.2.1, aJ g h_t_counter_arrived 6 q_21.2.2, ob h_t_edgePolynomial 0 [.ref h_t_edgePolynomial_coefficients, .ref h_t_edgePolynomial_work], aJ g h_t_edgePolynomial_coefficients 19 q_35] rfl 9 0 rfl rfl yq_X0_makeFrom rfl m_509 m_510 m_511 m_24 m_512 ⟨Nat.le_of_ble_eq_true rfl, Nat.le_of_ble_eq_true rfl⟩ rfl rfl hl.1 (Nat.le_of_ble_eq_true rfl) dX8_signedCoefficient_35 ⟨Nat.le_refl 0, Nat.le_refl 0⟩ rfl (fun H locs hP hD hS => ?_)
    refine lv_aload_n hx hb dX8_signedCoefficient_38 rfl (lv_at hl 0 rfl) ?_
    refine w_get cx hP 0 8 7 rfl rfl (by decide) m_210 rfl rfl dX8_signedCoefficient_39 ?_
    refine w_getN cx hP 9 0 0 rfl rfl (by decide) n_180 rfl rfl dX8_signedCoefficient_42 ?_
    refine lv_iload_n hx hb dX8_signedCoefficient_45 rfl (lv_at hl 1 rfl) ?_
    obtain ⟨g_46, hM⟩ := gd_some hM
    refine w_lald cx hP 10 rfl g_46 dX8_signedCoefficient_46 ?_
    obtain rfl := Option.some.inj hM
    exact hfin 47 _ _ _ dX8_signedCoefficient_47 hP hD hS
  · have hM := if_t hM c_6
    refine lv_ldc2 hx hb hown (hts _ m_366) dX8_signedCoefficient_9 ?_
    obtain rfl := Option.some.inj hM
    exact hfin 12 _ _ _ dX8_signedCoefficient_12 hP hD hS
noncomputable def f_X8_zetaCoefficient (p1 : Int32) (t_graph_vertices : Int32) (t_graph_edges : Int32) (a_t_graph_firsts : Nat → Int32) (a_t_graph_seconds : Nat → Int32) (a_t_graph_signs : Nat → Int32) (a_t_counter_closed : Nat → Int64) (a_t_counter_reached : Nat → Int64) (a_t_counter_arrived : Nat → Int64) (a_t_edgePolynomial_coefficients : Nat → Int64) (a_t_edgePolynomial_work : Nat → Int64) : Option (Int64 × (Nat → Int64) × (Nat → Int64) × (Nat → Int64) × (Nat → Int64) × (Nat → Int64)) :=
  bd (f_X8_isIndex p1 (nI 12)) (fun (q_3 : Int32) => if q_3 = 0 then some ((-9223372036854775808 : Int64), a_t_counter_closed, a_t_counter_reached, a_t_counter_arrived, a_t_edgePolynomial_coefficients, a_t_edgePolynomial_work) else bd (f_X8_makeEdgePolynomial t_graph_vertices t_graph_edges a_t_graph_firsts a_t_graph_seconds a_t_graph_signs a_t_counter_closed a_t_counter_reached a_t_counter_arrived a_t_edgePolynomial_coefficients) (fun (q_14 : (Nat → Int64) × (Nat → Int64) × (Nat → Int64) × (Nat → Int64)) => bd (f_X0_inverseCoefficient p1 q_14.2.2.2 a_t_edgePolynomial_work) (fun (q_22 : Int64 × (Nat → Int64)) => some (q_22.1, q_14.1, q_14.2.1, q_14.2.2.1, q_14.2.2.2, q_22.2))))
theorem yq_X8_zetaCoefficient : yq yX8_zetaCoefficient 1 := by unfold yq; decide +kernel
set_option maxHeartbeats 4000000 in
set_option maxRecDepth 100000 in
theorem c_X8_zetaCoefficient (g : GG) (l : Launch) (h_t : Nat) (h_t_graph : Nat) (h_t_draft : Nat) (h_t_history : Nat) (h_t_text : Nat) (h_t_grouping : Nat) (h_t_counter : Nat) (h_t_search : Nat) (h_t_edgePolynomial : Nat) (h_t_vertexPolynomial : Nat) (h_t_graph_firsts : Nat) (h_t_graph_seconds : Nat) (h_t_graph_signs : Nat) (h_t_counter_closed : Nat) (h_t_counter_closedSigned : Nat) (h_t_counter_primitive : Nat) (h_t_counter_primitiveSigned : Nat) (h_t_counter_reached : Nat) (h_t_counter_arrived : Nat) (h_t_edgePolynomial_coefficients : Nat) (h_t_edgePolynomial_work : Nat) (p1 : Int32) (t_graph_vertices : Int32) (t_graph_edges : Int32) (a_t_graph_firsts : Nat → Int32) (a_t_graph_seconds : Nat → Int32) (a_t_graph_signs : Nat → Int32) (a_t_counter_closed : Nat → Int64) (a_t_counter_reached : Nat → Int64) (a_t_counter_arrived : Nat → Int64) (a_t_edgePolynomial_coefficients : Nat → Int64) (a_t_edgePolynomial_work : Nat → Int64) {R : Int64 × (Nat → Int64) × (Nat → Int64) × (Nat → Int64) × (Nat → Int64) × (Nat → Int64)} (hM : f_X8_zetaCoefficient p1 t_graph_vertices t_graph_edges a_t_graph_firsts a_t_graph_seconds a_t_graph_signs a_t_counter_closed a_t_counter_reached a_t_counter_arrived a_t_edgePolynomial_coefficients a_t_edgePolynomial_work = some R) : CT g l yX8_zetaCoefficient cX8_zetaCoefficient 2 (some .long) 5 122 [.ref h_t, .int p1] [ob h_t 8 [.ref h_t_graph, .ref h_t_draft, .ref h_t_history, .ref h_t_text, .ref h_t_grouping, .ref h_t_counter, .ref h_t_search, .ref h_t_edgePolynomial, .ref h_t_vertexPolynomial], ob h_t_graph 2 [.int t_graph_vertices, .int t_graph_edges, .ref h_t_graph_firsts, .ref h_t_graph_seconds, .ref h_t_graph_signs], aI g h_t_graph_firsts 9 a_t_graph_firsts, aI g h_t_graph_seconds 9 a_t_graph_seconds, aI g h_t_graph_signs 9 a_t_graph_signs, ob h_t_counter 7 [.ref h_t_counter_closed, .ref h_t_counter_closedSigned, .ref h_t_counter_primitive, .ref h_t_counter_primitiveSigned, .ref h_t_counter_reached, .ref h_t_counter_arrived], aJ g h_t_counter_closed 19 a_t_counter_closed, aJ g h_t_counter_reached 18 a_t_counter_reached, aJ g h_t_counter_arrived 6 a_t_counter_arrived, ob h_t_edgePolynomial 0 [.ref h_t_edgePolynomial_coefficients, .ref h_t_edgePolynomial_work], aJ g h_t_edgePolynomial_coefficients 19 a_t_edgePolynomial_coefficients, aJ g h_t_edgePolynomial_work 19 a_t_edgePolynomial_work] [ob h_t 8 [.ref h_t_graph, .ref h_t_draft, .ref h_t_history, .ref h_t_text, .ref h_t_grouping, .ref h_t_counter, .ref h_t_search, .ref h_t_edgePolynomial, .ref h_t_vertexPolynomial], ob h_t_graph 2 [.int t_graph_vertices, .int t_graph_edges, .ref h_t_graph_firsts, .ref h_t_graph_seconds, .ref h_t_graph_signs], aI g h_t_graph_firsts 9 a_t_graph_firsts, aI g h_t_graph_seconds 9 a_t_graph_seconds, aI g h_t_graph_signs 9 a_t_graph_signs, ob h_t_counter 7 [.ref h_t_counter_closed, .ref h_t_counter_closedSigned, .ref h_t_counter_primitive, .ref h_t_counter_primitiveSigned, .ref h_t_counter_reached, .ref h_t_counter_arrived], aJ g h_t_counter_closed 19 R.2.1, aJ g h_t_counter_reached 18 R.2.2.1, aJ g h_t_counter_arrived 6 R.2.2.2.1, ob h_t_edgePolynomial 0 [.ref h_t_edgePolynomial_coefficients, .ref h_t_edgePolynomial_work], aJ g h_t_edgePolynomial_coefficients 19 R.2.2.2.2.1, aJ g h_t_edgePolynomial_work 19 R.2.2.2.2.2] (some (.long R.1)) := by
  refine ct_l (by decide +kernel) (Nat.le_of_ble_eq_true rfl) ?_
  intro p e s m args below meth c Q A ls cx hP hD hA hl hfin
  obtain ⟨hx, hb, hml, hown, hts, hK⟩ := id cx
  have hl : lv_has ls 2 [(0, .ref h_t), (1, .int p1)] := hl
  have hS : va_S A s.heap s.heap [] := va_S.rf
  refine lv_iload_n hx hb dX8_zetaCoefficient_0 rfl (lv_at hl 1 rfl) ?_
  refine lv_bipush (v := (nI 12)) hx hb dX8_zetaCoefficient_1 (by decide) ?_
  obtain ⟨q_3, hc_3, hM⟩ := bd_some hM
  refine w_callS cx hP hD hS hA (c_X8_isIndex g l p1 (nI 12) hc_3) [] rfl (by decide) rfl [ob h_t 8 [.ref h_t_graph, .ref h_t_draft, .ref h_t_history, .ref h_t_text, .ref h_t_grouping, .ref h_t_counter, .ref h_t_search, .ref h_t_edgePolynomial, .ref h_t_vertexPolynomial], ob h_t_graph 2 [.int t_graph_vertices, .int t_graph_edges, .ref h_t_graph_firsts, .ref h_t_graph_seconds, .ref h_t_graph_signs], aI g h_t_graph_firsts 9 a_t_graph_firsts, aI g h_t_graph_seconds 9 a_t_graph_seconds, aI g h_t_graph_signs 9 a_t_graph_signs, ob h_t_counter 7 [.ref h_t_counter_closed, .ref h_t_counter_closedSigned, .ref h_t_counter_primitive, .ref h_t_counter_primitiveSigned, .ref h_t_counter_reached, .ref h_t_counter_arrived], aJ g h_t_counter_closed 19 a_t_counter_closed, aJ g h_t_counter_reached 18 a_t_counter_reached, aJ g h_t_counter_arrived 6 a_t_counter_arrived, ob h_t_edgePolynomial 0 [.ref h_t_edgePolynomial_coefficients, .ref h_t_edgePolynomial_work], aJ g h_t_edgePolynomial_coefficients 19 a_t_edgePolynomial_coefficients, aJ g h_t_edgePolynomial_work 19 a_t_edgePolynomial_work] rfl yq_X8_isIndex m_502 m_503 m_17 m_504 ⟨Nat.le_of_ble_eq_true rfl, Nat.le_of_ble_eq_true rfl⟩ rfl rfl hl.1 (Nat.le_of_ble_eq_true rfl) dX8_zetaCoefficient_3 ⟨Nat.le_refl 0, Nat.le_refl 0⟩ rfl (fun H locs hP hD hS => ?_)
  refine lv_if_ne (tgt := 13) hx hb dX8_zetaCoefficient_6 (by decide) (fun c_6 => ?_) (fun c_6 => ?_)
  · have hM := if_f hM c_6
    refine lv_aload_n hx hb dX8_zetaCoefficient_13 rfl (lv_at hl 0 rfl) ?_
    obtain ⟨q_14, hc_14, hM⟩ := bd_some hM
    refine w_callV cx hP hD hS hA (c_X8_makeEdgePolynomial g l h_t h_t_graph h_t_draft h_t_history h_t_text h_t_grouping h_t_counter h_t_search h_t_edgePolynomial h_t_vertexPolynomial h_t_graph_firsts h_t_graph_seconds h_t_graph_signs h_t_counter_closed h_t_counter_closedSigned h_t_counter_primitive h_t_counter_primitiveSigned h_t_counter_reached h_t_counter_arrived h_t_edgePolynomial_coefficients h_t_edgePolynomial_work t_graph_vertices t_graph_edges a_t_graph_firsts a_t_graph_seconds a_t_graph_signs a_t_counter_closed a_t_counter_reached a_t_counter_arrived a_t_edgePolynomial_coefficients hc_14) [0, 1, 2, 3, 4, 5, 6, 7, 8, 9, 10] rfl (by decide) rfl [ob h_t 8 [.ref h_t_graph, .ref h_t_draft, .ref h_t_history, .ref h_t_text, .ref h_t_grouping, .ref h_t_counter, .ref h_t_search, .ref h_t_edgePolynomial, .ref h_t_vertexPolynomial], ob h_t_graph 2 [.int t_graph_vertices, .int t_graph_edges, .ref h_t_graph_firsts, .ref h_t_graph_seconds, .ref h_t_graph_signs], aI g h_t_graph_firsts 9 a_t_graph_firsts, aI g h_t_graph_seconds 9 a_t_graph_seconds, aI g h_t_graph_signs 9 a_t_graph_signs, ob h_t_counter 7 [.ref h_t_counter_closed, .ref h_t_counter_closedSigned, .ref h_t_counter_primitive, .ref h_t_counter_primitiveSigned, .ref h_t_counter_reached, .ref h_t_counter_arrived], aJ g h_t_counter_closed 19 q_14.1, aJ g h_t_counter_reached 18 q_14.2.1, aJ g h_t_counter_arrived 6 q_14.2.2.1, ob h_t_edgePolynomial 0 [.ref h_t_edgePolynomial_coefficients, .ref h_t_edgePolynomial_work], aJ g h_t_edgePolynomial_coefficients 19 q_14.2.2.2, aJ g h_t_edgePolynomial_work 19 a_t_edgePolynomial_work] rfl 0 8 rfl rfl yq_X8_makeEdgePolynomial rfl m_505 m_507 m_13 m_17 m_508 ⟨Nat.le_of_ble_eq_true rfl, Nat.le_of_ble_eq_true rfl⟩ rfl rfl hl.1 (Nat.le_of_ble_eq_true rfl) dX8_zetaCoefficient_14 ⟨Nat.le_refl 0, Nat.le_refl 0⟩ rfl (fun H locs hP hD hS => ?_)
    refine lv_aload_n hx hb dX8_zetaCoefficient_17 rfl (lv_at hl 0 rfl) ?_
    refine w_get cx hP 0 8 7 rfl rfl (by decide) m_210 rfl rfl dX8_zetaCoefficient_18 ?_
    refine lv_iload_n hx hb dX8_zetaCoefficient_21 rfl (lv_at hl 1 rfl) ?_
    obtain ⟨q_22, hc_22, hM⟩ := bd_some hM
    refine w_callV cx hP hD hS hA (c_X0_inverseCoefficient g l h_t_edgePolynomial h_t_edgePolynomial_coefficients h_t_edgePolynomial_work p1 q_14.2.2.2 a_t_edgePolynomial_work hc_22) [9, 10, 11] rfl (by decide) rfl [ob h_t 8 [.ref h_t_graph, .ref h_t_draft, .ref h_t_history, .ref h_t_text, .ref h_t_grouping, .ref h_t_counter, .ref h_t_search, .ref h_t_edgePolynomial, .ref h_t_vertexPolynomial], ob h_t_graph 2 [.int t_graph_vertices, .int t_graph_edges, .ref h_t_graph_firsts, .ref h_t_graph_seconds, .ref h_t_graph_signs], aI g h_t_graph_firsts 9 a_t_graph_firsts, aI g h_t_graph_seconds 9 a_t_graph_seconds, aI g h_t_graph_signs 9 a_t_graph_signs, ob h_t_counter 7 [.ref h_t_counter_closed, .ref h_t_counter_closedSigned, .ref h_t_counter_primitive, .ref h_t_counter_primitiveSigned, .ref h_t_counter_reached, .ref h_t_counter_arrived], aJ g h_t_counter_closed 19 q_14.1, aJ g h_t_counter_reached 18 q_14.2.1, aJ g h_t_counter_arrived 6 q_14.2.2.1, ob h_t_edgePolynomial 0 [.ref h_t_edgePolynomial_coefficients, .ref h_t_edgePolynomial_work], aJ g h_t_edgePolynomial_coefficients 19 q_14.2.2.2, aJ g h_t_edgePolynomial_work 19 q_22.2] rfl 9 0 rfl rfl yq_X0_inverseCoefficient rfl m_562 m_563 m_564 m_24 m_565 ⟨Nat.le_of_ble_eq_true rfl, Nat.le_of_ble_eq_true rfl⟩ rfl rfl hl.1 (Nat.le_of_ble_eq_true rfl) dX8_zetaCoefficient_22 ⟨Nat.le_refl 0, Nat.le_refl 0⟩ rfl (fun H locs hP hD hS => ?_)
    obtain rfl := Option.some.inj hM
    exact hfin 25 _ _ _ dX8_zetaCoefficient_25 hP hD hS
  · have hM := if_t hM c_6
    refine lv_ldc2 hx hb hown (hts _ m_366) dX8_zetaCoefficient_9 ?_
    obtain rfl := Option.some.inj hM
    exact hfin 12 _ _ _ dX8_zetaCoefficient_12 hP hD hS
noncomputable def f_X8_edgeValue (p1 : Int32) (t_graph_vertices : Int32) (t_graph_edges : Int32) (a_t_graph_firsts : Nat → Int32) (a_t_graph_seconds : Nat → Int32) (a_t_graph_signs : Nat → Int32) (a_t_counter_closed : Nat → Int64) (a_t_counter_reached : Nat → Int64) (a_t_counter_arrived : Nat → Int64) (a_t_edgePolynomial_coefficients : Nat → Int64) : Option (Int64 × (Nat → Int64) × (Nat → Int64) × (Nat → Int64) × (Nat → Int64)) :=
  if p1 < (nI 4294967294) then some ((-9223372036854775808 : Int64), a_t_counter_closed, a_t_counter_reached, a_t_counter_arrived, a_t_edgePolynomial_coefficients) else if p1 ≤ (nI 2) then bd (f_X8_makeEdgePolynomial t_graph_vertices t_graph_edges a_t_graph_firsts a_t_graph_seconds a_t_graph_signs a_t_counter_closed a_t_counter_reached a_t_counter_arrived a_t_edgePolynomial_coefficients) (fun (q_16 : (Nat → Int64) × (Nat → Int64) × (Nat → Int64) × (Nat → Int64)) => bd (f_X0_valueAt p1.toInt64 q_16.2.2.2) (fun (q_25 : Int64) => some (q_25, q_16.1, q_16.2.1, q_16.2.2.1, q_16.2.2.2))) else some ((-9223372036854775808 : Int64), a_t_counter_closed, a_t_counter_reached, a_t_counter_arrived, a_t_edgePolynomial_coefficients)
theorem yq_X8_edgeValue : yq yX8_edgeValue 1 := by unfold yq; decide +kernel
set_option maxHeartbeats 4000000 in
set_option maxRecDepth 100000 in
theorem c_X8_edgeValue (g : GG) (l : Launch) (h_t : Nat) (h_t_graph : Nat) (h_t_draft : Nat) (h_t_history : Nat) (h_t_text : Nat) (h_t_grouping : Nat) (h_t_counter : Nat) (h_t_search : Nat) (h_t_edgePolynomial : Nat) (h_t_vertexPolynomial : Nat) (h_t_graph_firsts : Nat) (h_t_graph_seconds : Nat) (h_t_graph_signs : Nat) (h_t_counter_closed : Nat) (h_t_counter_closedSigned : Nat) (h_t_counter_primitive : Nat) (h_t_counter_primitiveSigned : Nat) (h_t_counter_reached : Nat) (h_t_counter_arrived : Nat) (h_t_edgePolynomial_coefficients : Nat) (h_t_edgePolynomial_work : Nat) (p1 : Int32) (t_graph_vertices : Int32) (t_graph_edges : Int32) (a_t_graph_firsts : Nat → Int32) (a_t_graph_seconds : Nat → Int32) (a_t_graph_signs : Nat → Int32) (a_t_counter_closed : Nat → Int64) (a_t_counter_reached : Nat → Int64) (a_t_counter_arrived : Nat → Int64) (a_t_edgePolynomial_coefficients : Nat → Int64) {R : Int64 × (Nat → Int64) × (Nat → Int64) × (Nat → Int64) × (Nat → Int64)} (hM : f_X8_edgeValue p1 t_graph_vertices t_graph_edges a_t_graph_firsts a_t_graph_seconds a_t_graph_signs a_t_counter_closed a_t_counter_reached a_t_counter_arrived a_t_edgePolynomial_coefficients = some R) : CT g l yX8_edgeValue cX8_edgeValue 2 (some .long) 5 122 [.ref h_t, .int p1] [ob h_t 8 [.ref h_t_graph, .ref h_t_draft, .ref h_t_history, .ref h_t_text, .ref h_t_grouping, .ref h_t_counter, .ref h_t_search, .ref h_t_edgePolynomial, .ref h_t_vertexPolynomial], ob h_t_graph 2 [.int t_graph_vertices, .int t_graph_edges, .ref h_t_graph_firsts, .ref h_t_graph_seconds, .ref h_t_graph_signs], aI g h_t_graph_firsts 9 a_t_graph_firsts, aI g h_t_graph_seconds 9 a_t_graph_seconds, aI g h_t_graph_signs 9 a_t_graph_signs, ob h_t_counter 7 [.ref h_t_counter_closed, .ref h_t_counter_closedSigned, .ref h_t_counter_primitive, .ref h_t_counter_primitiveSigned, .ref h_t_counter_reached, .ref h_t_counter_arrived], aJ g h_t_counter_closed 19 a_t_counter_closed, aJ g h_t_counter_reached 18 a_t_counter_reached, aJ g h_t_counter_arrived 6 a_t_counter_arrived, ob h_t_edgePolynomial 0 [.ref h_t_edgePolynomial_coefficients, .ref h_t_edgePolynomial_work], aJ g h_t_edgePolynomial_coefficients 19 a_t_edgePolynomial_coefficients] [ob h_t 8 [.ref h_t_graph, .ref h_t_draft, .ref h_t_history, .ref h_t_text, .ref h_t_grouping, .ref h_t_counter, .ref h_t_search, .ref h_t_edgePolynomial, .ref h_t_vertexPolynomial], ob h_t_graph 2 [.int t_graph_vertices, .int t_graph_edges, .ref h_t_graph_firsts, .ref h_t_graph_seconds, .ref h_t_graph_signs], aI g h_t_graph_firsts 9 a_t_graph_firsts, aI g h_t_graph_seconds 9 a_t_graph_seconds, aI g h_t_graph_signs 9 a_t_graph_signs, ob h_t_counter 7 [.ref h_t_counter_closed, .ref h_t_counter_closedSigned, .ref h_t_counter_primitive, .ref h_t_counter_primitiveSigned, .ref h_t_counter_reached, .ref h_t_counter_arrived], aJ g h_t_counter_closed 19 R.2.1, aJ g h_t_counter_reached 18 R.2.2.1, aJ g h_t_counter_arrived 6 R.2.2.2.1, ob h_t_edgePolynomial 0 [.ref h_t_edgePolynomial_coefficients, .ref h_t_edgePolynomial_work], aJ g h_t_edgePolynomial_coefficients 19 R.2.2.2.2] (some (.long R.1)) := by
  refine ct_l (by decide +kernel) (Nat.le_of_ble_eq_true rfl) ?_
  intro p e s m args below meth c Q A ls cx hP hD hA hl hfin
  obtain ⟨hx, hb, hml, hown, hts, hK⟩ := id cx
  have hl : lv_has ls 2 [(0, .ref h_t), (1, .int p1)] := hl
  have hS : va_S A s.heap s.heap [] := va_S.rf
  refine lv_iload_n hx hb dX8_edgeValue_0 rfl (lv_at hl 1 rfl) ?_
  refine lv_bipush (v := (nI 4294967294)) hx hb dX8_edgeValue_1 (by decide) ?_
  refine lv_icmp_lt (tgt := 11) hx hb dX8_edgeValue_3 (by decide) (fun c_3 => ?_) (fun c_3 => ?_)
  · have hM := if_t hM c_3
    refine lv_ldc2 hx hb hown (hts _ m_366) dX8_edgeValue_11 ?_
    obtain rfl := Option.some.inj hM
    exact hfin 14 _ _ _ dX8_edgeValue_14 hP hD hS
  · have hM := if_f hM c_3
    refine lv_iload_n hx hb dX8_edgeValue_6 rfl (lv_at hl 1 rfl) ?_
    refine lv_iconst (v := (nI 2)) hx hb dX8_edgeValue_7 (by decide) ?_
    refine lv_icmp_le (tgt := 15) hx hb dX8_edgeValue_8 (by decide) (fun c_8 => ?_) (fun c_8 => ?_)
    · have hM := if_t hM c_8
      refine lv_aload_n hx hb dX8_edgeValue_15 rfl (lv_at hl 0 rfl) ?_
      obtain ⟨q_16, hc_16, hM⟩ := bd_some hM
      refine w_callV cx hP hD hS hA (c_X8_makeEdgePolynomial g l h_t h_t_graph h_t_draft h_t_history h_t_text h_t_grouping h_t_counter h_t_search h_t_edgePolynomial h_t_vertexPolynomial h_t_graph_firsts h_t_graph_seconds h_t_graph_signs h_t_counter_closed h_t_counter_closedSigned h_t_counter_primitive h_t_counter_primitiveSigned h_t_counter_reached h_t_counter_arrived h_t_edgePolynomial_coefficients h_t_edgePolynomial_work t_graph_vertices t_graph_edges a_t_graph_firsts a_t_graph_seconds a_t_graph_signs a_t_counter_closed a_t_counter_reached a_t_counter_arrived a_t_edgePolynomial_coefficients hc_16) [0, 1, 2, 3, 4, 5, 6, 7, 8, 9, 10] rfl (by decide) rfl [ob h_t 8 [.ref h_t_graph, .ref h_t_draft, .ref h_t_history, .ref h_t_text, .ref h_t_grouping, .ref h_t_counter, .ref h_t_search, .ref h_t_edgePolynomial, .ref h_t_vertexPolynomial], ob h_t_graph 2 [.int t_graph_vertices, .int t_graph_edges, .ref h_t_graph_firsts, .ref h_t_graph_seconds, .ref h_t_graph_signs], aI g h_t_graph_firsts 9 a_t_graph_firsts, aI g h_t_graph_seconds 9 a_t_graph_seconds, aI g h_t_graph_signs 9 a_t_graph_signs, ob h_t_counter 7 [.ref h_t_counter_closed, .ref h_t_counter_closedSigned, .ref h_t_counter_primitive, .ref h_t_counter_primitiveSigned, .ref h_t_counter_reached, .ref h_t_counter_arrived], aJ g h_t_counter_closed 19 q_16.1, aJ g h_t_counter_reached 18 q_16.2.1, aJ g h_t_counter_arrived 6 q_16.2.2.1, ob h_t_edgePolynomial 0 [.ref h_t_edgePolynomial_coefficients, .ref h_t_edgePolynomial_work], aJ g h_t_edgePolynomial_coefficients 19 q_16.2.2.2] rfl 0 8 rfl rfl yq_X8_makeEdgePolynomial rfl m_505 m_507 m_13 m_17 m_508 ⟨Nat.le_of_ble_eq_true rfl, Nat.le_of_ble_eq_true rfl⟩ rfl rfl hl.1 (Nat.le_of_ble_eq_true rfl) dX8_edgeValue_16 ⟨Nat.le_refl 0, Nat.le_refl 0⟩ rfl (fun H locs hP hD hS => ?_)
      refine lv_aload_n hx hb dX8_edgeValue_19 rfl (lv_at hl 0 rfl) ?_
      refine w_get cx hP 0 8 7 rfl rfl (by decide) m_210 rfl rfl dX8_edgeValue_20 ?_
      refine lv_iload_n hx hb dX8_edgeValue_23 rfl (lv_at hl 1 rfl) ?_
      refine lv_i2l (v := p1.toInt64) hx hb dX8_edgeValue_24 rfl ?_
      obtain ⟨q_25, hc_25, hM⟩ := bd_some hM
      refine w_callV cx hP hD hS hA (c_X0_valueAt g l h_t_edgePolynomial h_t_edgePolynomial_coefficients h_t_edgePolynomial_work p1.toInt64 q_16.2.2.2 hc_25) [9, 10] rfl (by decide) rfl [ob h_t 8 [.ref h_t_graph, .ref h_t_draft, .ref h_t_history, .ref h_t_text, .ref h_t_grouping, .ref h_t_counter, .ref h_t_search, .ref h_t_edgePolynomial, .ref h_t_vertexPolynomial], ob h_t_graph 2 [.int t_graph_vertices, .int t_graph_edges, .ref h_t_graph_firsts, .ref h_t_graph_seconds, .ref h_t_graph_signs], aI g h_t_graph_firsts 9 a_t_graph_firsts, aI g h_t_graph_seconds 9 a_t_graph_seconds, aI g h_t_graph_signs 9 a_t_graph_signs, ob h_t_counter 7 [.ref h_t_counter_closed, .ref h_t_counter_closedSigned, .ref h_t_counter_primitive, .ref h_t_counter_primitiveSigned, .ref h_t_counter_reached, .ref h_t_counter_arrived], aJ g h_t_counter_closed 19 q_16.1, aJ g h_t_counter_reached 18 q_16.2.1, aJ g h_t_counter_arrived 6 q_16.2.2.1, ob h_t_edgePolynomial 0 [.ref h_t_edgePolynomial_coefficients, .ref h_t_edgePolynomial_work], aJ g h_t_edgePolynomial_coefficients 19 q_16.2.2.2] rfl 9 0 rfl rfl yq_X0_valueAt rfl m_570 m_571 m_572 m_24 m_573 ⟨Nat.le_of_ble_eq_true rfl, Nat.le_of_ble_eq_true rfl⟩ rfl rfl hl.1 (Nat.le_of_ble_eq_true rfl) dX8_edgeValue_25 ⟨Nat.le_refl 0, Nat.le_refl 0⟩ rfl (fun H locs hP hD hS => ?_)
      obtain rfl := Option.some.inj hM
      exact hfin 28 _ _ _ dX8_edgeValue_28 hP hD hS
    · have hM := if_f hM c_8
      refine lv_ldc2 hx hb hown (hts _ m_366) dX8_edgeValue_11 ?_
      obtain rfl := Option.some.inj hM
      exact hfin 14 _ _ _ dX8_edgeValue_14 hP hD hS
noncomputable def f_X8_taylorAtOne (p1 : Int32) (t_graph_vertices : Int32) (t_graph_edges : Int32) (a_t_graph_firsts : Nat → Int32) (a_t_graph_seconds : Nat → Int32) (a_t_graph_signs : Nat → Int32) (a_t_counter_closed : Nat → Int64) (a_t_counter_reached : Nat → Int64) (a_t_counter_arrived : Nat → Int64) (a_t_edgePolynomial_coefficients : Nat → Int64) (a_t_edgePolynomial_work : Nat → Int64) : Option (Int64 × (Nat → Int64) × (Nat → Int64) × (Nat → Int64) × (Nat → Int64) × (Nat → Int64)) :=
  bd (f_X8_isIndex p1 (nI 18)) (fun (q_3 : Int32) => if q_3 = 0 then some ((-9223372036854775808 : Int64), a_t_counter_closed, a_t_counter_reached, a_t_counter_arrived, a_t_edgePolynomial_coefficients, a_t_edgePolynomial_work) else bd (f_X8_makeEdgePolynomial t_graph_vertices t_graph_edges a_t_graph_firsts a_t_graph_seconds a_t_graph_signs a_t_counter_closed a_t_counter_reached a_t_counter_arrived a_t_edgePolynomial_coefficients) (fun (q_14 : (Nat → Int64) × (Nat → Int64) × (Nat → Int64) × (Nat → Int64)) => bd (f_X0_coefficientAroundOne p1 q_14.2.2.2 a_t_edgePolynomial_work) (fun (q_22 : Int64 × (Nat → Int64)) => some (q_22.1, q_14.1, q_14.2.1, q_14.2.2.1, q_14.2.2.2, q_22.2))))
theorem yq_X8_taylorAtOne : yq yX8_taylorAtOne 1 := by unfold yq; decide +kernel
set_option maxHeartbeats 4000000 in
set_option maxRecDepth 100000 in
theorem c_X8_taylorAtOne (g : GG) (l : Launch) (h_t : Nat) (h_t_graph : Nat) (h_t_draft : Nat) (h_t_history : Nat) (h_t_text : Nat) (h_t_grouping : Nat) (h_t_counter : Nat) (h_t_search : Nat) (h_t_edgePolynomial : Nat) (h_t_vertexPolynomial : Nat) (h_t_graph_firsts : Nat) (h_t_graph_seconds : Nat) (h_t_graph_signs : Nat) (h_t_counter_closed : Nat) (h_t_counter_closedSigned : Nat) (h_t_counter_primitive : Nat) (h_t_counter_primitiveSigned : Nat) (h_t_counter_reached : Nat) (h_t_counter_arrived : Nat) (h_t_edgePolynomial_coefficients : Nat) (h_t_edgePolynomial_work : Nat) (p1 : Int32) (t_graph_vertices : Int32) (t_graph_edges : Int32) (a_t_graph_firsts : Nat → Int32) (a_t_graph_seconds : Nat → Int32) (a_t_graph_signs : Nat → Int32) (a_t_counter_closed : Nat → Int64) (a_t_counter_reached : Nat → Int64) (a_t_counter_arrived : Nat → Int64) (a_t_edgePolynomial_coefficients : Nat → Int64) (a_t_edgePolynomial_work : Nat → Int64) {R : Int64 × (Nat → Int64) × (Nat → Int64) × (Nat → Int64) × (Nat → Int64) × (Nat → Int64)} (hM : f_X8_taylorAtOne p1 t_graph_vertices t_graph_edges a_t_graph_firsts a_t_graph_seconds a_t_graph_signs a_t_counter_closed a_t_counter_reached a_t_counter_arrived a_t_edgePolynomial_coefficients a_t_edgePolynomial_work = some R) : CT g l yX8_taylorAtOne cX8_taylorAtOne 2 (some .long) 5 122 [.ref h_t, .int p1] [ob h_t 8 [.ref h_t_graph, .ref h_t_draft, .ref h_t_history, .ref h_t_text, .ref h_t_grouping, .ref h_t_counter, .ref h_t_search, .ref h_t_edgePolynomial, .ref h_t_vertexPolynomial], ob h_t_graph 2 [.int t_graph_vertices, .int t_graph_edges, .ref h_t_graph_firsts, .ref h_t_graph_seconds, .ref h_t_graph_signs], aI g h_t_graph_firsts 9 a_t_graph_firsts, aI g h_t_graph_seconds 9 a_t_graph_seconds, aI g h_t_graph_signs 9 a_t_graph_signs, ob h_t_counter 7 [.ref h_t_counter_closed, .ref h_t_counter_closedSigned, .ref h_t_counter_primitive, .ref h_t_counter_primitiveSigned, .ref h_t_counter_reached, .ref h_t_counter_arrived], aJ g h_t_counter_closed 19 a_t_counter_closed, aJ g h_t_counter_reached 18 a_t_counter_reached, aJ g h_t_counter_arrived 6 a_t_counter_arrived, ob h_t_edgePolynomial 0 [.ref h_t_edgePolynomial_coefficients, .ref h_t_edgePolynomial_work], aJ g h_t_edgePolynomial_coefficients 19 a_t_edgePolynomial_coefficients, aJ g h_t_edgePolynomial_work 19 a_t_edgePolynomial_work] [ob h_t 8 [.ref h_t_graph, .ref h_t_draft, .ref h_t_history, .ref h_t_text, .ref h_t_grouping, .ref h_t_counter, .ref h_t_search, .ref h_t_edgePolynomial, .ref h_t_vertexPolynomial], ob h_t_graph 2 [.int t_graph_vertices, .int t_graph_edges, .ref h_t_graph_firsts, .ref h_t_graph_seconds, .ref h_t_graph_signs], aI g h_t_graph_firsts 9 a_t_graph_firsts, aI g h_t_graph_seconds 9 a_t_graph_seconds, aI g h_t_graph_signs 9 a_t_graph_signs, ob h_t_counter 7 [.ref h_t_counter_closed, .ref h_t_counter_closedSigned, .ref h_t_counter_primitive, .ref h_t_counter_primitiveSigned, .ref h_t_counter_reached, .ref h_t_counter_arrived], aJ g h_t_counter_closed 19 R.2.1, aJ g h_t_counter_reached 18 R.2.2.1, aJ g h_t_counter_arrived 6 R.2.2.2.1, ob h_t_edgePolynomial 0 [.ref h_t_edgePolynomial_coefficients, .ref h_t_edgePolynomial_work], aJ g h_t_edgePolynomial_coefficients 19 R.2.2.2.2.1, aJ g h_t_edgePolynomial_work 19 R.2.2.2.2.2] (some (.long R.1)) := by
  refine ct_l (by decide +kernel) (Nat.le_of_ble_eq_true rfl) ?_
  intro p e s m args below meth c Q A ls cx hP hD hA hl hfin
  obtain ⟨hx, hb, hml, hown, hts, hK⟩ := id cx
  have hl : lv_has ls 2 [(0, .ref h_t), (1, .int p1)] := hl
  have hS : va_S A s.heap s.heap [] := va_S.rf
  refine lv_iload_n hx hb dX8_taylorAtOne_0 rfl (lv_at hl 1 rfl) ?_
  refine lv_bipush (v := (nI 18)) hx hb dX8_taylorAtOne_1 (by decide) ?_
  obtain ⟨q_3, hc_3, hM⟩ := bd_some hM
  refine w_callS cx hP hD hS hA (c_X8_isIndex g l p1 (nI 18) hc_3) [] rfl (by decide) rfl [ob h_t 8 [.ref h_t_graph, .ref h_t_draft, .ref h_t_history, .ref h_t_text, .ref h_t_grouping, .ref h_t_counter, .ref h_t_search, .ref h_t_edgePolynomial, .ref h_t_vertexPolynomial], ob h_t_graph 2 [.int t_graph_vertices, .int t_graph_edges, .ref h_t_graph_firsts, .ref h_t_graph_seconds, .ref h_t_graph_signs], aI g h_t_graph_firsts 9 a_t_graph_firsts, aI g h_t_graph_seconds 9 a_t_graph_seconds, aI g h_t_graph_signs 9 a_t_graph_signs, ob h_t_counter 7 [.ref h_t_counter_closed, .ref h_t_counter_closedSigned, .ref h_t_counter_primitive, .ref h_t_counter_primitiveSigned, .ref h_t_counter_reached, .ref h_t_counter_arrived], aJ g h_t_counter_closed 19 a_t_counter_closed, aJ g h_t_counter_reached 18 a_t_counter_reached, aJ g h_t_counter_arrived 6 a_t_counter_arrived, ob h_t_edgePolynomial 0 [.ref h_t_edgePolynomial_coefficients, .ref h_t_edgePolynomial_work], aJ g h_t_edgePolynomial_coefficients 19 a_t_edgePolynomial_coefficients, aJ g h_t_edgePolynomial_work 19 a_t_edgePolynomial_work] rfl yq_X8_isIndex m_502 m_503 m_17 m_504 ⟨Nat.le_of_ble_eq_true rfl, Nat.le_of_ble_eq_true rfl⟩ rfl rfl hl.1 (Nat.le_of_ble_eq_true rfl) dX8_taylorAtOne_3 ⟨Nat.le_refl 0, Nat.le_refl 0⟩ rfl (fun H locs hP hD hS => ?_)
  refine lv_if_ne (tgt := 13) hx hb dX8_taylorAtOne_6 (by decide) (fun c_6 => ?_) (fun c_6 => ?_)
  · have hM := if_f hM c_6
    refine lv_aload_n hx hb dX8_taylorAtOne_13 rfl (lv_at hl 0 rfl) ?_
    obtain ⟨q_14, hc_14, hM⟩ := bd_some hM
    refine w_callV cx hP hD hS hA (c_X8_makeEdgePolynomial g l h_t h_t_graph h_t_draft h_t_history h_t_text h_t_grouping h_t_counter h_t_search h_t_edgePolynomial h_t_vertexPolynomial h_t_graph_firsts h_t_graph_seconds h_t_graph_signs h_t_counter_closed h_t_counter_closedSigned h_t_counter_primitive h_t_counter_primitiveSigned h_t_counter_reached h_t_counter_arrived h_t_edgePolynomial_coefficients h_t_edgePolynomial_work t_graph_vertices t_graph_edges a_t_graph_firsts a_t_graph_seconds a_t_graph_signs a_t_counter_closed a_t_counter_reached a_t_counter_arrived a_t_edgePolynomial_coefficients hc_14) [0, 1, 2, 3, 4, 5, 6, 7, 8, 9, 10] rfl (by decide) rfl [ob h_t 8 [.ref h_t_graph, .ref h_t_draft, .ref h_t_history, .ref h_t_text, .ref h_t_grouping, .ref h_t_counter, .ref h_t_search, .ref h_t_edgePolynomial, .ref h_t_vertexPolynomial], ob h_t_graph 2 [.int t_graph_vertices, .int t_graph_edges, .ref h_t_graph_firsts, .ref h_t_graph_seconds, .ref h_t_graph_signs], aI g h_t_graph_firsts 9 a_t_graph_firsts, aI g h_t_graph_seconds 9 a_t_graph_seconds, aI g h_t_graph_signs 9 a_t_graph_signs, ob h_t_counter 7 [.ref h_t_counter_closed, .ref h_t_counter_closedSigned, .ref h_t_counter_primitive, .ref h_t_counter_primitiveSigned, .ref h_t_counter_reached, .ref h_t_counter_arrived], aJ g h_t_counter_closed 19 q_14.1, aJ g h_t_counter_reached 18 q_14.2.1, aJ g h_t_counter_arrived 6 q_14.2.2.1, ob h_t_edgePolynomial 0 [.ref h_t_edgePolynomial_coefficients, .ref h_t_edgePolynomial_work], aJ g h_t_edgePolynomial_coefficients 19 q_14.2.2.2, aJ g h_t_edgePolynomial_work 19 a_t_edgePolynomial_work] rfl 0 8 rfl rfl yq_X8_makeEdgePolynomial rfl m_505 m_507 m_13 m_17 m_508 ⟨Nat.le_of_ble_eq_true rfl, Nat.le_of_ble_eq_true rfl⟩ rfl rfl hl.1 (Nat.le_of_ble_eq_true rfl) dX8_taylorAtOne_14 ⟨Nat.le_refl 0, Nat.le_refl 0⟩ rfl (fun H locs hP hD hS => ?_)
    refine lv_aload_n hx hb dX8_taylorAtOne_17 rfl (lv_at hl 0 rfl) ?_
    refine w_get cx hP 0 8 7 rfl rfl (by decide) m_210 rfl rfl dX8_taylorAtOne_18 ?_
    refine lv_iload_n hx hb dX8_taylorAtOne_21 rfl (lv_at hl 1 rfl) ?_
    obtain ⟨q_22, hc_22, hM⟩ := bd_some hM
    refine w_callV cx hP hD hS hA (c_X0_coefficientAroundOne g l h_t_edgePolynomial h_t_edgePolynomial_coefficients h_t_edgePolynomial_work p1 q_14.2.2.2 a_t_edgePolynomial_work hc_22) [9, 10, 11] rfl (by decide) rfl [ob h_t 8 [.ref h_t_graph, .ref h_t_draft, .ref h_t_history, .ref h_t_text, .ref h_t_grouping, .ref h_t_counter, .ref h_t_search, .ref h_t_edgePolynomial, .ref h_t_vertexPolynomial], ob h_t_graph 2 [.int t_graph_vertices, .int t_graph_edges, .ref h_t_graph_firsts, .ref h_t_graph_seconds, .ref h_t_graph_signs], aI g h_t_graph_firsts 9 a_t_graph_firsts, aI g h_t_graph_seconds 9 a_t_graph_seconds, aI g h_t_graph_signs 9 a_t_graph_signs, ob h_t_counter 7 [.ref h_t_counter_closed, .ref h_t_counter_closedSigned, .ref h_t_counter_primitive, .ref h_t_counter_primitiveSigned, .ref h_t_counter_reached, .ref h_t_counter_arrived], aJ g h_t_counter_closed 19 q_14.1, aJ g h_t_counter_reached 18 q_14.2.1, aJ g h_t_counter_arrived 6 q_14.2.2.1, ob h_t_edgePolynomial 0 [.ref h_t_edgePolynomial_coefficients, .ref h_t_edgePolynomial_work], aJ g h_t_edgePolynomial_coefficients 19 q_14.2.2.2, aJ g h_t_edgePolynomial_work 19 q_22.2] rfl 9 0 rfl rfl yq_X0_coefficientAroundOne rfl m_578 m_579 m_580 m_24 m_581 ⟨Nat.le_of_ble_eq_true rfl, Nat.le_of_ble_eq_true rfl⟩ rfl rfl hl.1 (Nat.le_of_ble_eq_true rfl) dX8_taylorAtOne_22 ⟨Nat.le_refl 0, Nat.le_refl 0⟩ rfl (fun H locs hP hD hS => ?_)
    obtain rfl := Option.some.inj hM
    exact hfin 25 _ _ _ dX8_taylorAtOne_25 hP hD hS
  · have hM := if_t hM c_6
    refine lv_ldc2 hx hb hown (hts _ m_366) dX8_taylorAtOne_9 ?_
    obtain rfl := Option.some.inj hM
    exact hfin 12 _ _ _ dX8_taylorAtOne_12 hP hD hS
noncomputable def f_X8_edgeDegree (t_graph_vertices : Int32) (t_graph_edges : Int32) (a_t_graph_firsts : Nat → Int32) (a_t_graph_seconds : Nat → Int32) (a_t_graph_signs : Nat → Int32) (a_t_counter_closed : Nat → Int64) (a_t_counter_reached : Nat → Int64) (a_t_counter_arrived : Nat → Int64) (a_t_edgePolynomial_coefficients : Nat → Int64) : Option (Int32 × (Nat → Int64) × (Nat → Int64) × (Nat → Int64) × (Nat → Int64)) :=
  bd (f_X8_makeEdgePolynomial t_graph_vertices t_graph_edges a_t_graph_firsts a_t_graph_seconds a_t_graph_signs a_t_counter_closed a_t_counter_reached a_t_counter_arrived a_t_edgePolynomial_coefficients) (fun (q_1 : (Nat → Int64) × (Nat → Int64) × (Nat → Int64) × (Nat → Int64)) => bd (f_X0_highestPower q_1.2.2.2) (fun (q_8 : Int32) => some (q_8, q_1.1, q_1.2.1, q_1.2.2.1, q_1.2.2.2)))
theorem yq_X8_edgeDegree : yq yX8_edgeDegree 0 := by unfold yq; decide +kernel
set_option maxHeartbeats 4000000 in
set_option maxRecDepth 100000 in
theorem c_X8_edgeDegree (g : GG) (l : Launch) (h_t : Nat) (h_t_graph : Nat) (h_t_draft : Nat) (h_t_history : Nat) (h_t_text : Nat) (h_t_grouping : Nat) (h_t_counter : Nat) (h_t_search : Nat) (h_t_edgePolynomial : Nat) (h_t_vertexPolynomial : Nat) (h_t_graph_firsts : Nat) (h_t_graph_seconds : Nat) (h_t_graph_signs : Nat) (h_t_counter_closed : Nat) (h_t_counter_closedSigned : Nat) (h_t_counter_primitive : Nat) (h_t_counter_primitiveSigned : Nat) (h_t_counter_reached : Nat) (h_t_counter_arrived : Nat) (h_t_edgePolynomial_coefficients : Nat) (h_t_edgePolynomial_work : Nat) (t_graph_vertices : Int32) (t_graph_edges : Int32) (a_t_graph_firsts : Nat → Int32) (a_t_graph_seconds : Nat → Int32) (a_t_graph_signs : Nat → Int32) (a_t_counter_closed : Nat → Int64) (a_t_counter_reached : Nat → Int64) (a_t_counter_arrived : Nat → Int64) (a_t_edgePolynomial_coefficients : Nat → Int64) {R : Int32 × (Nat → Int64) × (Nat → Int64) × (Nat → Int64) × (Nat → Int64)} (hM : f_X8_edgeDegree t_graph_vertices t_graph_edges a_t_graph_firsts a_t_graph_seconds a_t_graph_signs a_t_counter_closed a_t_counter_reached a_t_counter_arrived a_t_edgePolynomial_coefficients = some R) : CT g l yX8_edgeDegree cX8_edgeDegree 1 (some .int) 5 122 [.ref h_t] [ob h_t 8 [.ref h_t_graph, .ref h_t_draft, .ref h_t_history, .ref h_t_text, .ref h_t_grouping, .ref h_t_counter, .ref h_t_search, .ref h_t_edgePolynomial, .ref h_t_vertexPolynomial], ob h_t_graph 2 [.int t_graph_vertices, .int t_graph_edges, .ref h_t_graph_firsts, .ref h_t_graph_seconds, .ref h_t_graph_signs], aI g h_t_graph_firsts 9 a_t_graph_firsts, aI g h_t_graph_seconds 9 a_t_graph_seconds, aI g h_t_graph_signs 9 a_t_graph_signs, ob h_t_counter 7 [.ref h_t_counter_closed, .ref h_t_counter_closedSigned, .ref h_t_counter_primitive, .ref h_t_counter_primitiveSigned, .ref h_t_counter_reached, .ref h_t_counter_arrived], aJ g h_t_counter_closed 19 a_t_counter_closed, aJ g h_t_counter_reached 18 a_t_counter_reached, aJ g h_t_counter_arrived 6 a_t_counter_arrived, ob h_t_edgePolynomial 0 [.ref h_t_edgePolynomial_coefficients, .ref h_t_edgePolynomial_work], aJ g h_t_edgePolynomial_coefficients 19 a_t_edgePolynomial_coefficients] [ob h_t 8 [.ref h_t_graph, .ref h_t_draft, .ref h_t_history, .ref h_t_text, .ref h_t_grouping, .ref h_t_counter, .ref h_t_search, .ref h_t_edgePolynomial, .ref h_t_vertexPolynomial], ob h_t_graph 2 [.int t_graph_vertices, .int t_graph_edges, .ref h_t_graph_firsts, .ref h_t_graph_seconds, .ref h_t_graph_signs], aI g h_t_graph_firsts 9 a_t_graph_firsts, aI g h_t_graph_seconds 9 a_t_graph_seconds, aI g h_t_graph_signs 9 a_t_graph_signs, ob h_t_counter 7 [.ref h_t_counter_closed, .ref h_t_counter_closedSigned, .ref h_t_counter_primitive, .ref h_t_counter_primitiveSigned, .ref h_t_counter_reached, .ref h_t_counter_arrived], aJ g h_t_counter_closed 19 R.2.1, aJ g h_t_counter_reached 18 R.2.2.1, aJ g h_t_counter_arrived 6 R.2.2.2.1, ob h_t_edgePolynomial 0 [.ref h_t_edgePolynomial_coefficients, .ref h_t_edgePolynomial_work], aJ g h_t_edgePolynomial_coefficients 19 R.2.2.2.2] (some (.int R.1)) := by
  refine ct_i (by decide +kernel) (Nat.le_of_ble_eq_true rfl) ?_
  intro p e s m args below meth c Q A ls cx hP hD hA hl hfin
  obtain ⟨hx, hb, hml, hown, hts, hK⟩ := id cx
  have hl : lv_has ls 1 [(0, .ref h_t)] := hl
  have hS : va_S A s.heap s.heap [] := va_S.rf
  refine lv_aload_n hx hb dX8_edgeDegree_0 rfl (lv_at hl 0 rfl) ?_
  obtain ⟨q_1, hc_1, hM⟩ := bd_some hM
  refine w_callV cx hP hD hS hA (c_X8_makeEdgePolynomial g l h_t h_t_graph h_t_draft h_t_history h_t_text h_t_grouping h_t_counter h_t_search h_t_edgePolynomial h_t_vertexPolynomial h_t_graph_firsts h_t_graph_seconds h_t_graph_signs h_t_counter_closed h_t_counter_closedSigned h_t_counter_primitive h_t_counter_primitiveSigned h_t_counter_reached h_t_counter_arrived h_t_edgePolynomial_coefficients h_t_edgePolynomial_work t_graph_vertices t_graph_edges a_t_graph_firsts a_t_graph_seconds a_t_graph_signs a_t_counter_closed a_t_counter_reached a_t_counter_arrived a_t_edgePolynomial_coefficients hc_1) [0, 1, 2, 3, 4, 5, 6, 7, 8, 9, 10] rfl (by decide) rfl [ob h_t 8 [.ref h_t_graph, .ref h_t_draft, .ref h_t_history, .ref h_t_text, .ref h_t_grouping, .ref h_t_counter, .ref h_t_search, .ref h_t_edgePolynomial, .ref h_t_vertexPolynomial], ob h_t_graph 2 [.int t_graph_vertices, .int t_graph_edges, .ref h_t_graph_firsts, .ref h_t_graph_seconds, .ref h_t_graph_signs], aI g h_t_graph_firsts 9 a_t_graph_firsts, aI g h_t_graph_seconds 9 a_t_graph_seconds, aI g h_t_graph_signs 9 a_t_graph_signs, ob h_t_counter 7 [.ref h_t_counter_closed, .ref h_t_counter_closedSigned, .ref h_t_counter_primitive, .ref h_t_counter_primitiveSigned, .ref h_t_counter_reached, .ref h_t_counter_arrived], aJ g h_t_counter_closed 19 q_1.1, aJ g h_t_counter_reached 18 q_1.2.1, aJ g h_t_counter_arrived 6 q_1.2.2.1, ob h_t_edgePolynomial 0 [.ref h_t_edgePolynomial_coefficients, .ref h_t_edgePolynomial_work], aJ g h_t_edgePolynomial_coefficients 19 q_1.2.2.2] rfl 0 8 rfl rfl yq_X8_makeEdgePolynomial rfl m_505 m_507 m_13 m_17 m_508 ⟨Nat.le_of_ble_eq_true rfl, Nat.le_of_ble_eq_true rfl⟩ rfl rfl hl.1 (Nat.le_of_ble_eq_true rfl) dX8_edgeDegree_1 ⟨Nat.le_refl 0, Nat.le_refl 0⟩ rfl (fun H locs hP hD hS => ?_)
  refine lv_aload_n hx hb dX8_edgeDegree_4 rfl (lv_at hl 0 rfl) ?_
  refine w_get cx hP 0 8 7 rfl rfl (by decide) m_210 rfl rfl dX8_edgeDegree_5 ?_
  obtain ⟨q_8, hc_8, hM⟩ := bd_some hM
  refine w_callV cx hP hD hS hA (c_X0_highestPower g l h_t_edgePolynomial h_t_edgePolynomial_coefficients h_t_edgePolynomial_work q_1.2.2.2 hc_8) [9, 10] rfl (by decide) rfl [ob h_t 8 [.ref h_t_graph, .ref h_t_draft, .ref h_t_history, .ref h_t_text, .ref h_t_grouping, .ref h_t_counter, .ref h_t_search, .ref h_t_edgePolynomial, .ref h_t_vertexPolynomial], ob h_t_graph 2 [.int t_graph_vertices, .int t_graph_edges, .ref h_t_graph_firsts, .ref h_t_graph_seconds, .ref h_t_graph_signs], aI g h_t_graph_firsts 9 a_t_graph_firsts, aI g h_t_graph_seconds 9 a_t_graph_seconds, aI g h_t_graph_signs 9 a_t_graph_signs, ob h_t_counter 7 [.ref h_t_counter_closed, .ref h_t_counter_closedSigned, .ref h_t_counter_primitive, .ref h_t_counter_primitiveSigned, .ref h_t_counter_reached, .ref h_t_counter_arrived], aJ g h_t_counter_closed 19 q_1.1, aJ g h_t_counter_reached 18 q_1.2.1, aJ g h_t_counter_arrived 6 q_1.2.2.1, ob h_t_edgePolynomial 0 [.ref h_t_edgePolynomial_coefficients, .ref h_t_edgePolynomial_work], aJ g h_t_edgePolynomial_coefficients 19 q_1.2.2.2] rfl 9 0 rfl rfl yq_X0_highestPower rfl m_611 m_612 m_613 m_24 m_614 ⟨Nat.le_of_ble_eq_true rfl, Nat.le_of_ble_eq_true rfl⟩ rfl rfl hl.1 (Nat.le_of_ble_eq_true rfl) dX8_edgeDegree_8 ⟨Nat.le_refl 0, Nat.le_refl 0⟩ rfl (fun H locs hP hD hS => ?_)
  obtain rfl := Option.some.inj hM
  exact hfin 11 _ _ _ dX8_edgeDegree_11 hP hD hS
noncomputable def f_X8_spanningTrees (t_graph_vertices : Int32) (t_graph_edges : Int32) (a_t_graph_firsts : Nat → Int32) (a_t_graph_seconds : Nat → Int32) (a_t_graph_signs : Nat → Int32) (a_t_grouping_groups : Nat → Int32) (a_t_grouping_sides : Nat → Int32) : Option (Int32 × (Nat → Int32) × (Nat → Int32)) :=
  bd (f_X3_countTrees a_t_grouping_groups a_t_grouping_sides t_graph_vertices t_graph_edges a_t_graph_firsts a_t_graph_seconds a_t_graph_signs) (fun (q_8 : Int32 × (Nat → Int32) × (Nat → Int32)) => some (q_8.1, q_8.2.1, q_8.2.2))
theorem yq_X8_spanningTrees : yq yX8_spanningTrees 0 := by unfold yq; decide +kernel
set_option maxHeartbeats 4000000 in
set_option maxRecDepth 100000 in
theorem c_X8_spanningTrees (g : GG) (l : Launch) (h_t : Nat) (h_t_graph : Nat) (h_t_draft : Nat) (h_t_history : Nat) (h_t_text : Nat) (h_t_grouping : Nat) (h_t_counter : Nat) (h_t_search : Nat) (h_t_edgePolynomial : Nat) (h_t_vertexPolynomial : Nat) (h_t_graph_firsts : Nat) (h_t_graph_seconds : Nat) (h_t_graph_signs : Nat) (h_t_grouping_groups : Nat) (h_t_grouping_sides : Nat) (t_graph_vertices : Int32) (t_graph_edges : Int32) (a_t_graph_firsts : Nat → Int32) (a_t_graph_seconds : Nat → Int32) (a_t_graph_signs : Nat → Int32) (a_t_grouping_groups : Nat → Int32) (a_t_grouping_sides : Nat → Int32) {R : Int32 × (Nat → Int32) × (Nat → Int32)} (hM : f_X8_spanningTrees t_graph_vertices t_graph_edges a_t_graph_firsts a_t_graph_seconds a_t_graph_signs a_t_grouping_groups a_t_grouping_sides = some R) : CT g l yX8_spanningTrees cX8_spanningTrees 1 (some .int) 4 96 [.ref h_t] [ob h_t 8 [.ref h_t_graph, .ref h_t_draft, .ref h_t_history, .ref h_t_text, .ref h_t_grouping, .ref h_t_counter, .ref h_t_search, .ref h_t_edgePolynomial, .ref h_t_vertexPolynomial], ob h_t_graph 2 [.int t_graph_vertices, .int t_graph_edges, .ref h_t_graph_firsts, .ref h_t_graph_seconds, .ref h_t_graph_signs], aI g h_t_graph_firsts 9 a_t_graph_firsts, aI g h_t_graph_seconds 9 a_t_graph_seconds, aI g h_t_graph_signs 9 a_t_graph_signs, ob h_t_grouping 3 [.ref h_t_grouping_groups, .ref h_t_grouping_sides], aI g h_t_grouping_groups 6 a_t_grouping_groups, aI g h_t_grouping_sides 6 a_t_grouping_sides] [ob h_t 8 [.ref h_t_graph, .ref h_t_draft, .ref h_t_history, .ref h_t_text, .ref h_t_grouping, .ref h_t_counter, .ref h_t_search, .ref h_t_edgePolynomial, .ref h_t_vertexPolynomial], ob h_t_graph 2 [.int t_graph_vertices, .int t_graph_edges, .ref h_t_graph_firsts, .ref h_t_graph_seconds, .ref h_t_graph_signs], aI g h_t_graph_firsts 9 a_t_graph_firsts, aI g h_t_graph_seconds 9 a_t_graph_seconds, aI g h_t_graph_signs 9 a_t_graph_signs, ob h_t_grouping 3 [.ref h_t_grouping_groups, .ref h_t_grouping_sides], aI g h_t_grouping_groups 6 R.2.1, aI g h_t_grouping_sides 6 R.2.2] (some (.int R.1)) := by
  refine ct_i (by decide +kernel) (Nat.le_of_ble_eq_true rfl) ?_
  intro p e s m args below meth c Q A ls cx hP hD hA hl hfin
  obtain ⟨hx, hb, hml, hown, hts, hK⟩ := id cx
  have hl : lv_has ls 1 [(0, .ref h_t)] := hl
  have hS : va_S A s.heap s.heap [] := va_S.rf
  refine lv_aload_n hx hb dX8_spanningTrees_0 rfl (lv_at hl 0 rfl) ?_
  refine w_get cx hP 0 8 4 rfl rfl (by decide) m_207 rfl rfl dX8_spanningTrees_1 ?_
  refine lv_aload_n hx hb dX8_spanningTrees_4 rfl (lv_at hl 0 rfl) ?_
  refine w_get cx hP 0 8 0 rfl rfl (by decide) m_203 rfl rfl dX8_spanningTrees_5 ?_
  obtain ⟨q_8, hc_8, hM⟩ := bd_some hM
  refine w_callV cx hP hD hS hA (c_X3_countTrees g l h_t_grouping h_t_grouping_groups h_t_grouping_sides h_t_graph h_t_graph_firsts h_t_graph_seconds h_t_graph_signs a_t_grouping_groups a_t_grouping_sides t_graph_vertices t_graph_edges a_t_graph_firsts a_t_graph_seconds a_t_graph_signs hc_8) [5, 6, 7, 1, 2, 3, 4] rfl (by decide) rfl [ob h_t 8 [.ref h_t_graph, .ref h_t_draft, .ref h_t_history, .ref h_t_text, .ref h_t_grouping, .ref h_t_counter, .ref h_t_search, .ref h_t_edgePolynomial, .ref h_t_vertexPolynomial], ob h_t_graph 2 [.int t_graph_vertices, .int t_graph_edges, .ref h_t_graph_firsts, .ref h_t_graph_seconds, .ref h_t_graph_signs], aI g h_t_graph_firsts 9 a_t_graph_firsts, aI g h_t_graph_seconds 9 a_t_graph_seconds, aI g h_t_graph_signs 9 a_t_graph_signs, ob h_t_grouping 3 [.ref h_t_grouping_groups, .ref h_t_grouping_sides], aI g h_t_grouping_groups 6 q_8.2.1, aI g h_t_grouping_sides 6 q_8.2.2] rfl 5 3 rfl rfl yq_X3_countTrees rfl m_619 m_620 m_621 m_21 m_622 ⟨Nat.le_of_ble_eq_true rfl, Nat.le_of_ble_eq_true rfl⟩ rfl rfl hl.1 (Nat.le_of_ble_eq_true rfl) dX8_spanningTrees_8 ⟨Nat.le_refl 0, Nat.le_refl 0⟩ rfl (fun H locs hP hD hS => ?_)
  obtain rfl := Option.some.inj hM
  exact hfin 11 _ _ _ dX8_spanningTrees_11 hP hD hS
