noncomputable def f_X2_isFull (t_vertices : Int32) (t_edges : Int32) : Option (Int32) :=
  if t_edges < (nI 9) then some (nI 0) else some (nI 1)
theorem yq_X2_isFull : yq yX2_isFull 0 := by unfold yq; decide +kernel
set_option maxHeartbeats 4000000 in
set_option maxRecDepth 100000 in
theorem c_X2_isFull (g : GG) (l : Launch) (h_t : Nat) (h_t_firsts : Nat) (h_t_seconds : Nat) (h_t_signs : Nat) (t_vertices : Int32) (t_edges : Int32) {R : Int32} (hM : f_X2_isFull t_vertices t_edges = some R) : CT g l yX2_isFull cX2_isFull 1 (some .boolean) 0 0 [.ref h_t] [ob h_t 2 [.int t_vertices, .int t_edges, .ref h_t_firsts, .ref h_t_seconds, .ref h_t_signs]] [ob h_t 2 [.int t_vertices, .int t_edges, .ref h_t_firsts, .ref h_t_seconds, .ref h_t_signs]] (some (.int R)) := by
  refine ct_z (by decide +kernel) (Nat.le_of_ble_eq_true rfl) ?_
  intro p e s m args below meth c Q A ls cx hP hD hA hl hfin
  obtain ⟨hx, hb, hml, hown, hts, hK⟩ := id cx
  have hl : lv_has ls 1 [(0, .ref h_t)] := hl
  have hS : va_S A s.heap s.heap [] := va_S.rf
  refine lv_aload_n hx hb dX2_isFull_0 rfl (lv_at hl 0 rfl) ?_
  refine w_get cx hP 0 2 1 rfl rfl (by decide) m_47 rfl rfl dX2_isFull_1 ?_
  refine lv_bipush (v := (nI 9)) hx hb dX2_isFull_4 (by decide) ?_
  refine lv_icmp_lt (tgt := 13) hx hb dX2_isFull_6 (by decide) (fun c_6 => ?_) (fun c_6 => ?_)
  · have hM := if_t hM c_6
    refine lv_iconst (v := (nI 0)) hx hb dX2_isFull_13 (by decide) ?_
    have hz : bq (nI 0) = true := by decide
    obtain rfl := Option.some.inj hM
    exact hfin 14 _ _ _ dX2_isFull_14 hz hP hD hS
  · have hM := if_f hM c_6
    refine lv_iconst (v := (nI 1)) hx hb dX2_isFull_9 (by decide) ?_
    refine lv_goto (tgt := 14) hx hb dX2_isFull_10 (by decide) ?_
    have hz : bq (nI 1) = true := by decide
    obtain rfl := Option.some.inj hM
    exact hfin 14 _ _ _ dX2_isFull_14 hz hP hD hS
noncomputable def f_X2_hasVertex (p1 : Int32) (t_vertices : Int32) (t_edges : Int32) : Option (Int32) :=
  if p1 < 0 then some (nI 0) else if t_vertices ≤ p1 then some (nI 0) else some (nI 1)
theorem yq_X2_hasVertex : yq yX2_hasVertex 1 := by unfold yq; decide +kernel
set_option maxHeartbeats 4000000 in
set_option maxRecDepth 100000 in
theorem c_X2_hasVertex (g : GG) (l : Launch) (h_t : Nat) (h_t_firsts : Nat) (h_t_seconds : Nat) (h_t_signs : Nat) (p1 : Int32) (t_vertices : Int32) (t_edges : Int32) {R : Int32} (hM : f_X2_hasVertex p1 t_vertices t_edges = some R) : CT g l yX2_hasVertex cX2_hasVertex 2 (some .boolean) 0 0 [.ref h_t, .int p1] [ob h_t 2 [.int t_vertices, .int t_edges, .ref h_t_firsts, .ref h_t_seconds, .ref h_t_signs]] [ob h_t 2 [.int t_vertices, .int t_edges, .ref h_t_firsts, .ref h_t_seconds, .ref h_t_signs]] (some (.int R)) := by
  refine ct_z (by decide +kernel) (Nat.le_of_ble_eq_true rfl) ?_
  intro p e s m args below meth c Q A ls cx hP hD hA hl hfin
  obtain ⟨hx, hb, hml, hown, hts, hK⟩ := id cx
  have hl : lv_has ls 2 [(0, .ref h_t), (1, .int p1)] := hl
  have hS : va_S A s.heap s.heap [] := va_S.rf
  refine lv_iload_n hx hb dX2_hasVertex_0 rfl (lv_at hl 1 rfl) ?_
  refine lv_if_lt (tgt := 16) hx hb dX2_hasVertex_1 (by decide) (fun c_1 => ?_) (fun c_1 => ?_)
  · have hM := if_t hM c_1
    refine lv_iconst (v := (nI 0)) hx hb dX2_hasVertex_16 (by decide) ?_
    have hz : bq (nI 0) = true := by decide
    obtain rfl := Option.some.inj hM
    exact hfin 17 _ _ _ dX2_hasVertex_17 hz hP hD hS
  · have hM := if_f hM c_1
    refine lv_iload_n hx hb dX2_hasVertex_4 rfl (lv_at hl 1 rfl) ?_
    refine lv_aload_n hx hb dX2_hasVertex_5 rfl (lv_at hl 0 rfl) ?_
    refine w_get cx hP 0 2 0 rfl rfl (by decide) m_43 rfl rfl dX2_hasVertex_6 ?_
    refine lv_icmp_ge (tgt := 16) hx hb dX2_hasVertex_9 (by decide) (fun c_9 => ?_) (fun c_9 => ?_)
    · have hM := if_t hM c_9
      refine lv_iconst (v := (nI 0)) hx hb dX2_hasVertex_16 (by decide) ?_
      have hz : bq (nI 0) = true := by decide
      obtain rfl := Option.some.inj hM
      exact hfin 17 _ _ _ dX2_hasVertex_17 hz hP hD hS
    · have hM := if_f hM c_9
      refine lv_iconst (v := (nI 1)) hx hb dX2_hasVertex_12 (by decide) ?_
      refine lv_goto (tgt := 17) hx hb dX2_hasVertex_13 (by decide) ?_
      have hz : bq (nI 1) = true := by decide
      obtain rfl := Option.some.inj hM
      exact hfin 17 _ _ _ dX2_hasVertex_17 hz hP hD hS
noncomputable def f_X2_hasEdge (p1 : Int32) (t_vertices : Int32) (t_edges : Int32) : Option (Int32) :=
  if p1 < 0 then some (nI 0) else if t_edges ≤ p1 then some (nI 0) else some (nI 1)
theorem yq_X2_hasEdge : yq yX2_hasEdge 1 := by unfold yq; decide +kernel
set_option maxHeartbeats 4000000 in
set_option maxRecDepth 100000 in
theorem c_X2_hasEdge (g : GG) (l : Launch) (h_t : Nat) (h_t_firsts : Nat) (h_t_seconds : Nat) (h_t_signs : Nat) (p1 : Int32) (t_vertices : Int32) (t_edges : Int32) {R : Int32} (hM : f_X2_hasEdge p1 t_vertices t_edges = some R) : CT g l yX2_hasEdge cX2_hasEdge 2 (some .boolean) 0 0 [.ref h_t, .int p1] [ob h_t 2 [.int t_vertices, .int t_edges, .ref h_t_firsts, .ref h_t_seconds, .ref h_t_signs]] [ob h_t 2 [.int t_vertices, .int t_edges, .ref h_t_firsts, .ref h_t_seconds, .ref h_t_signs]] (some (.int R)) := by
  refine ct_z (by decide +kernel) (Nat.le_of_ble_eq_true rfl) ?_
  intro p e s m args below meth c Q A ls cx hP hD hA hl hfin
  obtain ⟨hx, hb, hml, hown, hts, hK⟩ := id cx
  have hl : lv_has ls 2 [(0, .ref h_t), (1, .int p1)] := hl
  have hS : va_S A s.heap s.heap [] := va_S.rf
  refine lv_iload_n hx hb dX2_hasEdge_0 rfl (lv_at hl 1 rfl) ?_
  refine lv_if_lt (tgt := 16) hx hb dX2_hasEdge_1 (by decide) (fun c_1 => ?_) (fun c_1 => ?_)
  · have hM := if_t hM c_1
    refine lv_iconst (v := (nI 0)) hx hb dX2_hasEdge_16 (by decide) ?_
    have hz : bq (nI 0) = true := by decide
    obtain rfl := Option.some.inj hM
    exact hfin 17 _ _ _ dX2_hasEdge_17 hz hP hD hS
  · have hM := if_f hM c_1
    refine lv_iload_n hx hb dX2_hasEdge_4 rfl (lv_at hl 1 rfl) ?_
    refine lv_aload_n hx hb dX2_hasEdge_5 rfl (lv_at hl 0 rfl) ?_
    refine w_get cx hP 0 2 1 rfl rfl (by decide) m_47 rfl rfl dX2_hasEdge_6 ?_
    refine lv_icmp_ge (tgt := 16) hx hb dX2_hasEdge_9 (by decide) (fun c_9 => ?_) (fun c_9 => ?_)
    · have hM := if_t hM c_9
      refine lv_iconst (v := (nI 0)) hx hb dX2_hasEdge_16 (by decide) ?_
      have hz : bq (nI 0) = true := by decide
      obtain rfl := Option.some.inj hM
      exact hfin 17 _ _ _ dX2_hasEdge_17 hz hP hD hS
    · have hM := if_f hM c_9
      refine lv_iconst (v := (nI 1)) hx hb dX2_hasEdge_12 (by decide) ?_
      refine lv_goto (tgt := 17) hx hb dX2_hasEdge_13 (by decide) ?_
      have hz : bq (nI 1) = true := by decide
      obtain rfl := Option.some.inj hM
      exact hfin 17 _ _ _ dX2_hasEdge_17 hz hP hD hS
noncomputable def f_X2_hasDirected (p1 : Int32) (t_vertices : Int32) (t_edges : Int32) : Option (Int32) :=
  if p1 < 0 then some (nI 0) else if ((nI 2) * t_edges) ≤ p1 then some (nI 0) else some (nI 1)
theorem yq_X2_hasDirected : yq yX2_hasDirected 1 := by unfold yq; decide +kernel
set_option maxHeartbeats 4000000 in
set_option maxRecDepth 100000 in
theorem c_X2_hasDirected (g : GG) (l : Launch) (h_t : Nat) (h_t_firsts : Nat) (h_t_seconds : Nat) (h_t_signs : Nat) (p1 : Int32) (t_vertices : Int32) (t_edges : Int32) {R : Int32} (hM : f_X2_hasDirected p1 t_vertices t_edges = some R) : CT g l yX2_hasDirected cX2_hasDirected 2 (some .boolean) 0 0 [.ref h_t, .int p1] [ob h_t 2 [.int t_vertices, .int t_edges, .ref h_t_firsts, .ref h_t_seconds, .ref h_t_signs]] [ob h_t 2 [.int t_vertices, .int t_edges, .ref h_t_firsts, .ref h_t_seconds, .ref h_t_signs]] (some (.int R)) := by
  refine ct_z (by decide +kernel) (Nat.le_of_ble_eq_true rfl) ?_
  intro p e s m args below meth c Q A ls cx hP hD hA hl hfin
  obtain ⟨hx, hb, hml, hown, hts, hK⟩ := id cx
  have hl : lv_has ls 2 [(0, .ref h_t), (1, .int p1)] := hl
  have hS : va_S A s.heap s.heap [] := va_S.rf
  refine lv_iload_n hx hb dX2_hasDirected_0 rfl (lv_at hl 1 rfl) ?_
  refine lv_if_lt (tgt := 18) hx hb dX2_hasDirected_1 (by decide) (fun c_1 => ?_) (fun c_1 => ?_)
  · have hM := if_t hM c_1
    refine lv_iconst (v := (nI 0)) hx hb dX2_hasDirected_18 (by decide) ?_
    have hz : bq (nI 0) = true := by decide
    obtain rfl := Option.some.inj hM
    exact hfin 19 _ _ _ dX2_hasDirected_19 hz hP hD hS
  · have hM := if_f hM c_1
    refine lv_iload_n hx hb dX2_hasDirected_4 rfl (lv_at hl 1 rfl) ?_
    refine lv_iconst (v := (nI 2)) hx hb dX2_hasDirected_5 (by decide) ?_
    refine lv_aload_n hx hb dX2_hasDirected_6 rfl (lv_at hl 0 rfl) ?_
    refine w_get cx hP 0 2 1 rfl rfl (by decide) m_47 rfl rfl dX2_hasDirected_7 ?_
    refine lv_imul hx hb dX2_hasDirected_10 ?_
    refine lv_icmp_ge (tgt := 18) hx hb dX2_hasDirected_11 (by decide) (fun c_11 => ?_) (fun c_11 => ?_)
    · have hM := if_t hM c_11
      refine lv_iconst (v := (nI 0)) hx hb dX2_hasDirected_18 (by decide) ?_
      have hz : bq (nI 0) = true := by decide
      obtain rfl := Option.some.inj hM
      exact hfin 19 _ _ _ dX2_hasDirected_19 hz hP hD hS
    · have hM := if_f hM c_11
      refine lv_iconst (v := (nI 1)) hx hb dX2_hasDirected_14 (by decide) ?_
      refine lv_goto (tgt := 19) hx hb dX2_hasDirected_15 (by decide) ?_
      have hz : bq (nI 1) = true := by decide
      obtain rfl := Option.some.inj hM
      exact hfin 19 _ _ _ dX2_hasDirected_19 hz hP hD hS
noncomputable def f_X2_makeEmpty (p1 : Int32) (t_vertices : Int32) (t_edges : Int32) : Option (Int32 × Int32) :=
  some (p1, (nI 0))
theorem yq_X2_makeEmpty : yq yX2_makeEmpty 1 := by unfold yq; decide +kernel
set_option maxHeartbeats 4000000 in
set_option maxRecDepth 100000 in
theorem c_X2_makeEmpty (g : GG) (l : Launch) (h_t : Nat) (h_t_firsts : Nat) (h_t_seconds : Nat) (h_t_signs : Nat) (p1 : Int32) (t_vertices : Int32) (t_edges : Int32) {R : Int32 × Int32} (hM : f_X2_makeEmpty p1 t_vertices t_edges = some R) : CT g l yX2_makeEmpty cX2_makeEmpty 2 none 0 0 [.ref h_t, .int p1] [ob h_t 2 [.int t_vertices, .int t_edges, .ref h_t_firsts, .ref h_t_seconds, .ref h_t_signs]] [ob h_t 2 [.int R.1, .int R.2, .ref h_t_firsts, .ref h_t_seconds, .ref h_t_signs]] none := by
  refine ct_v (by decide +kernel) (Nat.le_of_ble_eq_true rfl) ?_
  intro p e s m args below meth c Q A ls cx hP hD hA hl hfin
  obtain ⟨hx, hb, hml, hown, hts, hK⟩ := id cx
  have hl : lv_has ls 2 [(0, .ref h_t), (1, .int p1)] := hl
  have hS : va_S A s.heap s.heap [] := va_S.rf
  refine lv_aload_n hx hb dX2_makeEmpty_0 rfl (lv_at hl 0 rfl) ?_
  refine lv_iload_n hx hb dX2_makeEmpty_1 rfl (lv_at hl 1 rfl) ?_
  refine w_put cx hP hD hS 0 2 0 rfl rfl (by decide) m_43 rfl rfl rfl (Nat.le_of_ble_eq_true rfl) dX2_makeEmpty_2 [ob h_t 2 [.int p1, .int t_edges, .ref h_t_firsts, .ref h_t_seconds, .ref h_t_signs]] rfl (fun H locs hP hD hS => ?_)
  refine lv_aload_n hx hb dX2_makeEmpty_5 rfl (lv_at hl 0 rfl) ?_
  refine lv_iconst (v := (nI 0)) hx hb dX2_makeEmpty_6 (by decide) ?_
  refine w_put cx hP hD hS 0 2 1 rfl rfl (by decide) m_47 rfl rfl rfl (Nat.le_of_ble_eq_true rfl) dX2_makeEmpty_7 [ob h_t 2 [.int p1, .int (nI 0), .ref h_t_firsts, .ref h_t_seconds, .ref h_t_signs]] rfl (fun H locs hP hD hS => ?_)
  obtain rfl := Option.some.inj hM
  exact hfin 10 _ _ _ dX2_makeEmpty_10 hP hD hS
noncomputable def b_X2_copyFrom_18 (a_p1_firsts : Nat → Int32) (a_p1_seconds : Nat → Int32) (a_p1_signs : Nat → Int32) : Int32 × (Nat → Int32) × (Nat → Int32) × (Nat → Int32) → Option ((Int32 × (Nat → Int32) × (Nat → Int32) × (Nat → Int32)) ⊕ (((Nat → Int32) × (Nat → Int32) × (Nat → Int32)))) := fun z_18 =>
  if (nI 9) ≤ z_18.1 then some (.inr (z_18.2.1, z_18.2.2.1, z_18.2.2.2)) else gd (inb z_18.1 9) (gd (inb z_18.1 9) (gd (inb z_18.1 9) (gd (inb z_18.1 9) (gd (inb z_18.1 9) (gd (inb z_18.1 9) (some (.inl (z_18.1 + (nI 1), upd z_18.2.1 z_18.1.toNatClampNeg (a_p1_firsts z_18.1.toNatClampNeg), upd z_18.2.2.1 z_18.1.toNatClampNeg (a_p1_seconds z_18.1.toNatClampNeg), upd z_18.2.2.2 z_18.1.toNatClampNeg (a_p1_signs z_18.1.toNatClampNeg)))))))))
noncomputable def f_X2_copyFrom (t_vertices : Int32) (t_edges : Int32) (a_t_firsts : Nat → Int32) (a_t_seconds : Nat → Int32) (a_t_signs : Nat → Int32) (p1_vertices : Int32) (p1_edges : Int32) (a_p1_firsts : Nat → Int32) (a_p1_seconds : Nat → Int32) (a_p1_signs : Nat → Int32) : Option (Int32 × Int32 × (Nat → Int32) × (Nat → Int32) × (Nat → Int32)) :=
  bd (wh (b_X2_copyFrom_18 a_p1_firsts a_p1_seconds a_p1_signs) ((nI 0), a_t_firsts, a_t_seconds, a_t_signs)) (fun (r_18 : (Nat → Int32) × (Nat → Int32) × (Nat → Int32)) => some (p1_vertices, p1_edges, r_18.1, r_18.2.1, r_18.2.2))
theorem yq_X2_copyFrom : yq yX2_copyFrom 1 := by unfold yq; decide +kernel
set_option maxHeartbeats 4000000 in
set_option maxRecDepth 100000 in
theorem c_X2_copyFrom (g : GG) (l : Launch) (h_t : Nat) (h_t_firsts : Nat) (h_t_seconds : Nat) (h_t_signs : Nat) (h_p1 : Nat) (h_p1_firsts : Nat) (h_p1_seconds : Nat) (h_p1_signs : Nat) (t_vertices : Int32) (t_edges : Int32) (a_t_firsts : Nat → Int32) (a_t_seconds : Nat → Int32) (a_t_signs : Nat → Int32) (p1_vertices : Int32) (p1_edges : Int32) (a_p1_firsts : Nat → Int32) (a_p1_seconds : Nat → Int32) (a_p1_signs : Nat → Int32) {R : Int32 × Int32 × (Nat → Int32) × (Nat → Int32) × (Nat → Int32)} (hM : f_X2_copyFrom t_vertices t_edges a_t_firsts a_t_seconds a_t_signs p1_vertices p1_edges a_p1_firsts a_p1_seconds a_p1_signs = some R) : CT g l yX2_copyFrom cX2_copyFrom 3 none 0 0 [.ref h_t, .ref h_p1] [ob h_t 2 [.int t_vertices, .int t_edges, .ref h_t_firsts, .ref h_t_seconds, .ref h_t_signs], aI g h_t_firsts 9 a_t_firsts, aI g h_t_seconds 9 a_t_seconds, aI g h_t_signs 9 a_t_signs, ob h_p1 2 [.int p1_vertices, .int p1_edges, .ref h_p1_firsts, .ref h_p1_seconds, .ref h_p1_signs], aI g h_p1_firsts 9 a_p1_firsts, aI g h_p1_seconds 9 a_p1_seconds, aI g h_p1_signs 9 a_p1_signs] [ob h_t 2 [.int R.1, .int R.2.1, .ref h_t_firsts, .ref h_t_seconds, .ref h_t_signs], aI g h_t_firsts 9 R.2.2.1, aI g h_t_seconds 9 R.2.2.2.1, aI g h_t_signs 9 R.2.2.2.2, ob h_p1 2 [.int p1_vertices, .int p1_edges, .ref h_p1_firsts, .ref h_p1_seconds, .ref h_p1_signs], aI g h_p1_firsts 9 a_p1_firsts, aI g h_p1_seconds 9 a_p1_seconds, aI g h_p1_signs 9 a_p1_signs] none := by
  refine ct_v (by decide +kernel) (Nat.le_of_ble_eq_true rfl) ?_
  intro p e s m args below meth c Q A ls cx hP hD hA hl hfin
  obtain ⟨hx, hb, hml, hown, hts, hK⟩ := id cx
  have hl : lv_has ls 3 [(0, .ref h_t), (1, .ref h_p1)] := hl
  have hS : va_S A s.heap s.heap [] := va_S.rf
  refine lv_aload_n hx hb dX2_copyFrom_0 rfl (lv_at hl 0 rfl) ?_
  refine lv_aload_n hx hb dX2_copyFrom_1 rfl (lv_at hl 1 rfl) ?_
  refine w_get cx hP 4 2 0 rfl rfl (by decide) m_43 rfl rfl dX2_copyFrom_2 ?_
  refine w_put cx hP hD hS 0 2 0 rfl rfl (by decide) m_43 rfl rfl rfl (Nat.le_of_ble_eq_true rfl) dX2_copyFrom_5 [ob h_t 2 [.int p1_vertices, .int t_edges, .ref h_t_firsts, .ref h_t_seconds, .ref h_t_signs], aI g h_t_firsts 9 a_t_firsts, aI g h_t_seconds 9 a_t_seconds, aI g h_t_signs 9 a_t_signs, ob h_p1 2 [.int p1_vertices, .int p1_edges, .ref h_p1_firsts, .ref h_p1_seconds, .ref h_p1_signs], aI g h_p1_firsts 9 a_p1_firsts, aI g h_p1_seconds 9 a_p1_seconds, aI g h_p1_signs 9 a_p1_signs] rfl (fun H locs hP hD hS => ?_)
  refine lv_aload_n hx hb dX2_copyFrom_8 rfl (lv_at hl 0 rfl) ?_
  refine lv_aload_n hx hb dX2_copyFrom_9 rfl (lv_at hl 1 rfl) ?_
  refine w_get cx hP 4 2 1 rfl rfl (by decide) m_47 rfl rfl dX2_copyFrom_10 ?_
  refine w_put cx hP hD hS 0 2 1 rfl rfl (by decide) m_47 rfl rfl rfl (Nat.le_of_ble_eq_true rfl) dX2_copyFrom_13 [ob h_t 2 [.int p1_vertices, .int p1_edges, .ref h_t_firsts, .ref h_t_seconds, .ref h_t_signs], aI g h_t_firsts 9 a_t_firsts, aI g h_t_seconds 9 a_t_seconds, aI g h_t_signs 9 a_t_signs, ob h_p1 2 [.int p1_vertices, .int p1_edges, .ref h_p1_firsts, .ref h_p1_seconds, .ref h_p1_signs], aI g h_p1_firsts 9 a_p1_firsts, aI g h_p1_seconds 9 a_p1_seconds, aI g h_p1_signs 9 a_p1_signs] rfl (fun H locs hP hD hS => ?_)
  refine lv_iconst (v := (nI 0)) hx hb dX2_copyFrom_16 (by decide) ?_
  refine lv_istore_n (lv' := [(2, .int (nI 0)), (0, .ref h_t), (1, .ref h_p1)]) hx hb dX2_copyFrom_17 rfl hl (by decide) rfl (fun ls hl => ?_)
  obtain ⟨r_18, hw, hM⟩ := bd_some hM
  obtain ⟨n, hn⟩ := wh_some hw
  clear hw
  have hE_18_0 : ∀ (H : Heap) (locs : List Loc) (ls : Array Slot), va_P (gD g) vwCl [ob h_t 2 [.int p1_vertices, .int p1_edges, .ref h_t_firsts, .ref h_t_seconds, .ref h_t_signs], aI g h_t_firsts 9 r_18.1, aI g h_t_seconds 9 r_18.2.1, aI g h_t_signs 9 r_18.2.2, ob h_p1 2 [.int p1_vertices, .int p1_edges, .ref h_p1_firsts, .ref h_p1_seconds, .ref h_p1_signs], aI g h_p1_firsts 9 a_p1_firsts, aI g h_p1_seconds 9 a_p1_seconds, aI g h_p1_signs 9 a_p1_signs] H → va_D A [ob h_t 2 [.int p1_vertices, .int p1_edges, .ref h_t_firsts, .ref h_t_seconds, .ref h_t_signs], aI g h_t_firsts 9 r_18.1, aI g h_t_seconds 9 r_18.2.1, aI g h_t_signs 9 r_18.2.2, ob h_p1 2 [.int p1_vertices, .int p1_edges, .ref h_p1_firsts, .ref h_p1_seconds, .ref h_p1_signs], aI g h_p1_firsts 9 a_p1_firsts, aI g h_p1_seconds 9 a_p1_seconds, aI g h_p1_signs 9 a_p1_signs] → va_S A s.heap H locs → lv_has ls 3 [] → W p l e (rmv 0 0) s m args below meth c H locs 0 0 Q (F0 m 66 ls []) := by
    intro H locs ls hP hD hS hl
    obtain rfl := Option.some.inj hM
    exact hfin 66 _ _ _ dX2_copyFrom_66 hP hD hS
  clear hM
  have hL_18 : ∀ (n : Nat) (z_18 : Int32 × (Nat → Int32) × (Nat → Int32) × (Nat → Int32)), it (b_X2_copyFrom_18 a_p1_firsts a_p1_seconds a_p1_signs) n z_18 = some r_18 → ∀ (H : Heap) (locs : List Loc) (ls : Array Slot), va_P (gD g) vwCl [ob h_t 2 [.int p1_vertices, .int p1_edges, .ref h_t_firsts, .ref h_t_seconds, .ref h_t_signs], aI g h_t_firsts 9 z_18.2.1, aI g h_t_seconds 9 z_18.2.2.1, aI g h_t_signs 9 z_18.2.2.2, ob h_p1 2 [.int p1_vertices, .int p1_edges, .ref h_p1_firsts, .ref h_p1_seconds, .ref h_p1_signs], aI g h_p1_firsts 9 a_p1_firsts, aI g h_p1_seconds 9 a_p1_seconds, aI g h_p1_signs 9 a_p1_signs] H → va_D A [ob h_t 2 [.int p1_vertices, .int p1_edges, .ref h_t_firsts, .ref h_t_seconds, .ref h_t_signs], aI g h_t_firsts 9 z_18.2.1, aI g h_t_seconds 9 z_18.2.2.1, aI g h_t_signs 9 z_18.2.2.2, ob h_p1 2 [.int p1_vertices, .int p1_edges, .ref h_p1_firsts, .ref h_p1_seconds, .ref h_p1_signs], aI g h_p1_firsts 9 a_p1_firsts, aI g h_p1_seconds 9 a_p1_seconds, aI g h_p1_signs 9 a_p1_signs] → va_S A s.heap H locs → lv_has ls 3 [(2, .int z_18.1), (0, .ref h_t), (1, .ref h_p1)] → W p l e (rmv 0 0) s m args below meth c H locs 0 0 Q (F0 m 18 ls []) := by
    intro n
    induction n with
    | zero => intro z_18 hn; exact (it_zero hn).elim
    | succ n ih =>
      intro z_18 hn H locs ls hP hD hS hl
      obtain ⟨x, hM, hX⟩ := it_succ hn
      clear hn
      refine lv_iload_n hx hb dX2_copyFrom_18 rfl (lv_at hl 0 rfl) ?_
      refine lv_bipush (v := (nI 9)) hx hb dX2_copyFrom_19 (by decide) ?_
      refine lv_icmp_ge (tgt := 66) hx hb dX2_copyFrom_21 (by decide) (fun c_21 => ?_) (fun c_21 => ?_)
      · have hM := if_t hM c_21
        obtain rfl := Option.some.inj hM
        obtain rfl : _ = r_18 := hX
        exact hE_18_0 _ _ _ hP hD hS (lv_sub hl [] rfl)
      · have hM := if_f hM c_21
        refine lv_aload_n hx hb dX2_copyFrom_24 rfl (lv_at hl 1 rfl) ?_
        refine w_get cx hP 0 2 2 rfl rfl (by decide) m_52 rfl rfl dX2_copyFrom_25 ?_
        refine lv_iload_n hx hb dX2_copyFrom_28 rfl (lv_at hl 0 rfl) ?_
        refine lv_aload_n hx hb dX2_copyFrom_29 rfl (lv_at hl 2 rfl) ?_
        refine w_get cx hP 4 2 2 rfl rfl (by decide) m_52 rfl rfl dX2_copyFrom_30 ?_
        refine lv_iload_n hx hb dX2_copyFrom_33 rfl (lv_at hl 0 rfl) ?_
        obtain ⟨g_34, hM⟩ := gd_some hM
        refine w_iald cx hP 5 rfl g_34 dX2_copyFrom_34 ?_
        obtain ⟨g_35, hM⟩ := gd_some hM
        refine w_iast cx hP hD hS 1 rfl g_35 dX2_copyFrom_35 [ob h_t 2 [.int p1_vertices, .int p1_edges, .ref h_t_firsts, .ref h_t_seconds, .ref h_t_signs], aI g h_t_firsts 9 (upd z_18.2.1 z_18.1.toNatClampNeg (a_p1_firsts z_18.1.toNatClampNeg)), aI g h_t_seconds 9 z_18.2.2.1, aI g h_t_signs 9 z_18.2.2.2, ob h_p1 2 [.int p1_vertices, .int p1_edges, .ref h_p1_firsts, .ref h_p1_seconds, .ref h_p1_signs], aI g h_p1_firsts 9 a_p1_firsts, aI g h_p1_seconds 9 a_p1_seconds, aI g h_p1_signs 9 a_p1_signs] rfl (fun H locs hP hD hS => ?_)
        refine lv_aload_n hx hb dX2_copyFrom_36 rfl (lv_at hl 1 rfl) ?_
        refine w_get cx hP 0 2 3 rfl rfl (by decide) m_54 rfl rfl dX2_copyFrom_37 ?_
        refine lv_iload_n hx hb dX2_copyFrom_40 rfl (lv_at hl 0 rfl) ?_
        refine lv_aload_n hx hb dX2_copyFrom_41 rfl (lv_at hl 2 rfl) ?_
        refine w_get cx hP 4 2 3 rfl rfl (by decide) m_54 rfl rfl dX2_copyFrom_42 ?_
        refine lv_iload_n hx hb dX2_copyFrom_45 rfl (lv_at hl 0 rfl) ?_
        obtain ⟨g_46, hM⟩ := gd_some hM
        refine w_iald cx hP 6 rfl g_46 dX2_copyFrom_46 ?_
        obtain ⟨g_47, hM⟩ := gd_some hM
        refine w_iast cx hP hD hS 2 rfl g_47 dX2_copyFrom_47 [ob h_t 2 [.int p1_vertices, .int p1_edges, .ref h_t_firsts, .ref h_t_seconds, .ref h_t_signs], aI g h_t_firsts 9 (upd z_18.2.1 z_18.1.toNatClampNeg (a_p1_firsts z_18.1.toNatClampNeg)), aI g h_t_seconds 9 (upd z_18.2.2.1 z_18.1.toNatClampNeg (a_p1_seconds z_18.1.toNatClampNeg)), aI g h_t_signs 9 z_18.2.2.2, ob h_p1 2 [.int p1_vertices, .int p1_edges, .ref h_p1_firsts, .ref h_p1_seconds, .ref h_p1_signs], aI g h_p1_firsts 9 a_p1_firsts, aI g h_p1_seconds 9 a_p1_seconds, aI g h_p1_signs 9 a_p1_signs] rfl (fun H locs hP hD hS => ?_)
        refine lv_aload_n hx hb dX2_copyFrom_48 rfl (lv_at hl 1 rfl) ?_
        refine w_get cx hP 0 2 4 rfl rfl (by decide) m_56 rfl rfl dX2_copyFrom_49 ?_
        refine lv_iload_n hx hb dX2_copyFrom_52 rfl (lv_at hl 0 rfl) ?_
        refine lv_aload_n hx hb dX2_copyFrom_53 rfl (lv_at hl 2 rfl) ?_
        refine w_get cx hP 4 2 4 rfl rfl (by decide) m_56 rfl rfl dX2_copyFrom_54 ?_
        refine lv_iload_n hx hb dX2_copyFrom_57 rfl (lv_at hl 0 rfl) ?_
        obtain ⟨g_58, hM⟩ := gd_some hM
        refine w_iald cx hP 7 rfl g_58 dX2_copyFrom_58 ?_
        obtain ⟨g_59, hM⟩ := gd_some hM
        refine w_iast cx hP hD hS 3 rfl g_59 dX2_copyFrom_59 [ob h_t 2 [.int p1_vertices, .int p1_edges, .ref h_t_firsts, .ref h_t_seconds, .ref h_t_signs], aI g h_t_firsts 9 (upd z_18.2.1 z_18.1.toNatClampNeg (a_p1_firsts z_18.1.toNatClampNeg)), aI g h_t_seconds 9 (upd z_18.2.2.1 z_18.1.toNatClampNeg (a_p1_seconds z_18.1.toNatClampNeg)), aI g h_t_signs 9 (upd z_18.2.2.2 z_18.1.toNatClampNeg (a_p1_signs z_18.1.toNatClampNeg)), ob h_p1 2 [.int p1_vertices, .int p1_edges, .ref h_p1_firsts, .ref h_p1_seconds, .ref h_p1_signs], aI g h_p1_firsts 9 a_p1_firsts, aI g h_p1_seconds 9 a_p1_seconds, aI g h_p1_signs 9 a_p1_signs] rfl (fun H locs hP hD hS => ?_)
        refine lv_iinc (v := z_18.1 + (nI 1)) (lv' := [(2, .int (z_18.1 + (nI 1))), (0, .ref h_t), (1, .ref h_p1)]) hx hb dX2_copyFrom_60 hl (k := 0) rfl (congrArg (fun q => z_18.1 + q) (show Int32.ofInt (1) = (nI 1) by decide)) (by decide) rfl (fun ls hl => ?_)
        refine lv_goto (tgt := 18) hx hb dX2_copyFrom_63 (by decide) ?_
        obtain rfl := Option.some.inj hM
        exact ih _ hX _ _ _ hP hD hS (lv_sub hl [0, 1, 2] rfl)
  exact hL_18 n _ hn _ _ _ hP hD hS (lv_sub hl [0, 1, 2] rfl)
noncomputable def f_X2_append (p1 : Int32) (p2 : Int32) (p3 : Int32) (t_vertices : Int32) (t_edges : Int32) (a_t_firsts : Nat → Int32) (a_t_seconds : Nat → Int32) (a_t_signs : Nat → Int32) : Option (Int32 × (Nat → Int32) × (Nat → Int32) × (Nat → Int32)) :=
  bd (f_X2_isFull t_vertices t_edges) (fun (q_1 : Int32) => if q_1 = 0 then gd (inb t_edges 9) (gd (inb t_edges 9) (gd (inb t_edges 9) (some ((t_edges + (nI 1)), upd a_t_firsts t_edges.toNatClampNeg p1, upd a_t_seconds t_edges.toNatClampNeg p2, upd a_t_signs t_edges.toNatClampNeg p3)))) else some (t_edges, a_t_firsts, a_t_seconds, a_t_signs))
theorem yq_X2_append : yq yX2_append 3 := by unfold yq; decide +kernel
set_option maxHeartbeats 4000000 in
set_option maxRecDepth 100000 in
theorem c_X2_append (g : GG) (l : Launch) (h_t : Nat) (h_t_firsts : Nat) (h_t_seconds : Nat) (h_t_signs : Nat) (p1 : Int32) (p2 : Int32) (p3 : Int32) (t_vertices : Int32) (t_edges : Int32) (a_t_firsts : Nat → Int32) (a_t_seconds : Nat → Int32) (a_t_signs : Nat → Int32) {R : Int32 × (Nat → Int32) × (Nat → Int32) × (Nat → Int32)} (hM : f_X2_append p1 p2 p3 t_vertices t_edges a_t_firsts a_t_seconds a_t_signs = some R) : CT g l yX2_append cX2_append 4 none 1 20 [.ref h_t, .int p1, .int p2, .int p3] [ob h_t 2 [.int t_vertices, .int t_edges, .ref h_t_firsts, .ref h_t_seconds, .ref h_t_signs], aI g h_t_firsts 9 a_t_firsts, aI g h_t_seconds 9 a_t_seconds, aI g h_t_signs 9 a_t_signs] [ob h_t 2 [.int t_vertices, .int R.1, .ref h_t_firsts, .ref h_t_seconds, .ref h_t_signs], aI g h_t_firsts 9 R.2.1, aI g h_t_seconds 9 R.2.2.1, aI g h_t_signs 9 R.2.2.2] none := by
  refine ct_v (by decide +kernel) (Nat.le_of_ble_eq_true rfl) ?_
  intro p e s m args below meth c Q A ls cx hP hD hA hl hfin
  obtain ⟨hx, hb, hml, hown, hts, hK⟩ := id cx
  have hl : lv_has ls 4 [(0, .ref h_t), (1, .int p1), (2, .int p2), (3, .int p3)] := hl
  have hS : va_S A s.heap s.heap [] := va_S.rf
  refine lv_aload_n hx hb dX2_append_0 rfl (lv_at hl 0 rfl) ?_
  obtain ⟨q_1, hc_1, hM⟩ := bd_some hM
  refine w_callV cx hP hD hS hA (c_X2_isFull g l h_t h_t_firsts h_t_seconds h_t_signs t_vertices t_edges hc_1) [0] rfl (by decide) rfl [ob h_t 2 [.int t_vertices, .int t_edges, .ref h_t_firsts, .ref h_t_seconds, .ref h_t_signs], aI g h_t_firsts 9 a_t_firsts, aI g h_t_seconds 9 a_t_seconds, aI g h_t_signs 9 a_t_signs] rfl 0 2 rfl rfl yq_X2_isFull rfl m_259 m_240 m_241 m_18 m_242 ⟨Nat.le_of_ble_eq_true rfl, Nat.le_of_ble_eq_true rfl⟩ rfl rfl hl.1 (Nat.le_of_ble_eq_true rfl) dX2_append_1 ⟨Nat.le_refl 0, Nat.le_refl 0⟩ rfl (fun H locs hP hD hS => ?_)
  refine lv_if_eq (tgt := 8) hx hb dX2_append_4 (by decide) (fun c_4 => ?_) (fun c_4 => ?_)
  · have hM := if_t hM c_4
    refine lv_aload_n hx hb dX2_append_8 rfl (lv_at hl 0 rfl) ?_
    refine w_get cx hP 0 2 2 rfl rfl (by decide) m_52 rfl rfl dX2_append_9 ?_
    refine lv_aload_n hx hb dX2_append_12 rfl (lv_at hl 0 rfl) ?_
    refine w_get cx hP 0 2 1 rfl rfl (by decide) m_47 rfl rfl dX2_append_13 ?_
    refine lv_iload_n hx hb dX2_append_16 rfl (lv_at hl 1 rfl) ?_
    obtain ⟨g_17, hM⟩ := gd_some hM
    refine w_iast cx hP hD hS 1 rfl g_17 dX2_append_17 [ob h_t 2 [.int t_vertices, .int t_edges, .ref h_t_firsts, .ref h_t_seconds, .ref h_t_signs], aI g h_t_firsts 9 (upd a_t_firsts t_edges.toNatClampNeg p1), aI g h_t_seconds 9 a_t_seconds, aI g h_t_signs 9 a_t_signs] rfl (fun H locs hP hD hS => ?_)
    refine lv_aload_n hx hb dX2_append_18 rfl (lv_at hl 0 rfl) ?_
    refine w_get cx hP 0 2 3 rfl rfl (by decide) m_54 rfl rfl dX2_append_19 ?_
    refine lv_aload_n hx hb dX2_append_22 rfl (lv_at hl 0 rfl) ?_
    refine w_get cx hP 0 2 1 rfl rfl (by decide) m_47 rfl rfl dX2_append_23 ?_
    refine lv_iload_n hx hb dX2_append_26 rfl (lv_at hl 2 rfl) ?_
    obtain ⟨g_27, hM⟩ := gd_some hM
    refine w_iast cx hP hD hS 2 rfl g_27 dX2_append_27 [ob h_t 2 [.int t_vertices, .int t_edges, .ref h_t_firsts, .ref h_t_seconds, .ref h_t_signs], aI g h_t_firsts 9 (upd a_t_firsts t_edges.toNatClampNeg p1), aI g h_t_seconds 9 (upd a_t_seconds t_edges.toNatClampNeg p2), aI g h_t_signs 9 a_t_signs] rfl (fun H locs hP hD hS => ?_)
    refine lv_aload_n hx hb dX2_append_28 rfl (lv_at hl 0 rfl) ?_
    refine w_get cx hP 0 2 4 rfl rfl (by decide) m_56 rfl rfl dX2_append_29 ?_
    refine lv_aload_n hx hb dX2_append_32 rfl (lv_at hl 0 rfl) ?_
    refine w_get cx hP 0 2 1 rfl rfl (by decide) m_47 rfl rfl dX2_append_33 ?_
    refine lv_iload_n hx hb dX2_append_36 rfl (lv_at hl 3 rfl) ?_
    obtain ⟨g_37, hM⟩ := gd_some hM
    refine w_iast cx hP hD hS 3 rfl g_37 dX2_append_37 [ob h_t 2 [.int t_vertices, .int t_edges, .ref h_t_firsts, .ref h_t_seconds, .ref h_t_signs], aI g h_t_firsts 9 (upd a_t_firsts t_edges.toNatClampNeg p1), aI g h_t_seconds 9 (upd a_t_seconds t_edges.toNatClampNeg p2), aI g h_t_signs 9 (upd a_t_signs t_edges.toNatClampNeg p3)] rfl (fun H locs hP hD hS => ?_)
    refine lv_aload_n hx hb dX2_append_38 rfl (lv_at hl 0 rfl) ?_
    refine lv_dup hx hb dX2_append_39 rfl ?_
    refine w_get cx hP 0 2 1 rfl rfl (by decide) m_47 rfl rfl dX2_append_40 ?_
    refine lv_iconst (v := (nI 1)) hx hb dX2_append_43 (by decide) ?_
    refine lv_iadd hx hb dX2_append_44 ?_
    refine w_put cx hP hD hS 0 2 1 rfl rfl (by decide) m_47 rfl rfl rfl (Nat.le_of_ble_eq_true rfl) dX2_append_45 [ob h_t 2 [.int t_vertices, .int (t_edges + (nI 1)), .ref h_t_firsts, .ref h_t_seconds, .ref h_t_signs], aI g h_t_firsts 9 (upd a_t_firsts t_edges.toNatClampNeg p1), aI g h_t_seconds 9 (upd a_t_seconds t_edges.toNatClampNeg p2), aI g h_t_signs 9 (upd a_t_signs t_edges.toNatClampNeg p3)] rfl (fun H locs hP hD hS => ?_)
    obtain rfl := Option.some.inj hM
    exact hfin 48 _ _ _ dX2_append_48 hP hD hS
  · have hM := if_f hM c_4
    obtain rfl := Option.some.inj hM
    exact hfin 7 _ _ _ dX2_append_7 hP hD hS
noncomputable def b_X2_delete_2 (t_edges : Int32) : Int32 × (Nat → Int32) × (Nat → Int32) × (Nat → Int32) → Option ((Int32 × (Nat → Int32) × (Nat → Int32) × (Nat → Int32)) ⊕ (((Nat → Int32) × (Nat → Int32) × (Nat → Int32)))) := fun z_2 =>
  if (t_edges - (nI 1)) ≤ z_2.1 then some (.inr (z_2.2.1, z_2.2.2.1, z_2.2.2.2)) else gd (inb (z_2.1 + (nI 1)) 9) (gd (inb z_2.1 9) (gd (inb (z_2.1 + (nI 1)) 9) (gd (inb z_2.1 9) (gd (inb (z_2.1 + (nI 1)) 9) (gd (inb z_2.1 9) (some (.inl (z_2.1 + (nI 1), upd z_2.2.1 z_2.1.toNatClampNeg (z_2.2.1 (z_2.1 + (nI 1)).toNatClampNeg), upd z_2.2.2.1 z_2.1.toNatClampNeg (z_2.2.2.1 (z_2.1 + (nI 1)).toNatClampNeg), upd z_2.2.2.2 z_2.1.toNatClampNeg (z_2.2.2.2 (z_2.1 + (nI 1)).toNatClampNeg)))))))))
noncomputable def f_X2_delete (p1 : Int32) (t_vertices : Int32) (t_edges : Int32) (a_t_firsts : Nat → Int32) (a_t_seconds : Nat → Int32) (a_t_signs : Nat → Int32) : Option (Int32 × (Nat → Int32) × (Nat → Int32) × (Nat → Int32)) :=
  bd (wh (b_X2_delete_2 t_edges) (p1, a_t_firsts, a_t_seconds, a_t_signs)) (fun (r_2 : (Nat → Int32) × (Nat → Int32) × (Nat → Int32)) => some ((t_edges - (nI 1)), r_2.1, r_2.2.1, r_2.2.2))
theorem yq_X2_delete : yq yX2_delete 1 := by unfold yq; decide +kernel
set_option maxHeartbeats 4000000 in
set_option maxRecDepth 100000 in
theorem c_X2_delete (g : GG) (l : Launch) (h_t : Nat) (h_t_firsts : Nat) (h_t_seconds : Nat) (h_t_signs : Nat) (p1 : Int32) (t_vertices : Int32) (t_edges : Int32) (a_t_firsts : Nat → Int32) (a_t_seconds : Nat → Int32) (a_t_signs : Nat → Int32) {R : Int32 × (Nat → Int32) × (Nat → Int32) × (Nat → Int32)} (hM : f_X2_delete p1 t_vertices t_edges a_t_firsts a_t_seconds a_t_signs = some R) : CT g l yX2_delete cX2_delete 3 none 0 0 [.ref h_t, .int p1] [ob h_t 2 [.int t_vertices, .int t_edges, .ref h_t_firsts, .ref h_t_seconds, .ref h_t_signs], aI g h_t_firsts 9 a_t_firsts, aI g h_t_seconds 9 a_t_seconds, aI g h_t_signs 9 a_t_signs] [ob h_t 2 [.int t_vertices, .int R.1, .ref h_t_firsts, .ref h_t_seconds, .ref h_t_signs], aI g h_t_firsts 9 R.2.1, aI g h_t_seconds 9 R.2.2.1, aI g h_t_signs 9 R.2.2.2] none := by
  refine ct_v (by decide +kernel) (Nat.le_of_ble_eq_true rfl) ?_
  intro p e s m args below meth c Q A ls cx hP hD hA hl hfin
  obtain ⟨hx, hb, hml, hown, hts, hK⟩ := id cx
  have hl : lv_has ls 3 [(0, .ref h_t), (1, .int p1)] := hl
  have hS : va_S A s.heap s.heap [] := va_S.rf
  refine lv_iload_n hx hb dX2_delete_0 rfl (lv_at hl 1 rfl) ?_
  refine lv_istore_n (lv' := [(2, .int p1), (0, .ref h_t), (1, .int p1)]) hx hb dX2_delete_1 rfl hl (by decide) rfl (fun ls hl => ?_)
  obtain ⟨r_2, hw, hM⟩ := bd_some hM
  obtain ⟨n, hn⟩ := wh_some hw
  clear hw
  have hE_2_0 : ∀ (H : Heap) (locs : List Loc) (ls : Array Slot), va_P (gD g) vwCl [ob h_t 2 [.int t_vertices, .int t_edges, .ref h_t_firsts, .ref h_t_seconds, .ref h_t_signs], aI g h_t_firsts 9 r_2.1, aI g h_t_seconds 9 r_2.2.1, aI g h_t_signs 9 r_2.2.2] H → va_D A [ob h_t 2 [.int t_vertices, .int t_edges, .ref h_t_firsts, .ref h_t_seconds, .ref h_t_signs], aI g h_t_firsts 9 r_2.1, aI g h_t_seconds 9 r_2.2.1, aI g h_t_signs 9 r_2.2.2] → va_S A s.heap H locs → lv_has ls 3 [(0, .ref h_t)] → W p l e (rmv 0 0) s m args below meth c H locs 0 0 Q (F0 m 60 ls []) := by
    intro H locs ls hP hD hS hl
    refine lv_aload_n hx hb dX2_delete_60 rfl (lv_at hl 0 rfl) ?_
    refine lv_dup hx hb dX2_delete_61 rfl ?_
    refine w_get cx hP 0 2 1 rfl rfl (by decide) m_47 rfl rfl dX2_delete_62 ?_
    refine lv_iconst (v := (nI 1)) hx hb dX2_delete_65 (by decide) ?_
    refine lv_isub hx hb dX2_delete_66 ?_
    refine w_put cx hP hD hS 0 2 1 rfl rfl (by decide) m_47 rfl rfl rfl (Nat.le_of_ble_eq_true rfl) dX2_delete_67 [ob h_t 2 [.int t_vertices, .int (t_edges - (nI 1)), .ref h_t_firsts, .ref h_t_seconds, .ref h_t_signs], aI g h_t_firsts 9 r_2.1, aI g h_t_seconds 9 r_2.2.1, aI g h_t_signs 9 r_2.2.2] rfl (fun H locs hP hD hS => ?_)
    obtain rfl := Option.some.inj hM
    exact hfin 70 _ _ _ dX2_delete_70 hP hD hS
  clear hM
  have hL_2 : ∀ (n : Nat) (z_2 : Int32 × (Nat → Int32) × (Nat → Int32) × (Nat → Int32)), it (b_X2_delete_2 t_edges) n z_2 = some r_2 → ∀ (H : Heap) (locs : List Loc) (ls : Array Slot), va_P (gD g) vwCl [ob h_t 2 [.int t_vertices, .int t_edges, .ref h_t_firsts, .ref h_t_seconds, .ref h_t_signs], aI g h_t_firsts 9 z_2.2.1, aI g h_t_seconds 9 z_2.2.2.1, aI g h_t_signs 9 z_2.2.2.2] H → va_D A [ob h_t 2 [.int t_vertices, .int t_edges, .ref h_t_firsts, .ref h_t_seconds, .ref h_t_signs], aI g h_t_firsts 9 z_2.2.1, aI g h_t_seconds 9 z_2.2.2.1, aI g h_t_signs 9 z_2.2.2.2] → va_S A s.heap H locs → lv_has ls 3 [(2, .int z_2.1), (0, .ref h_t)] → W p l e (rmv 0 0) s m args below meth c H locs 0 0 Q (F0 m 2 ls []) := by
    intro n
    induction n with
    | zero => intro z_2 hn; exact (it_zero hn).elim
    | succ n ih =>
      intro z_2 hn H locs ls hP hD hS hl
      obtain ⟨x, hM, hX⟩ := it_succ hn
      clear hn
      refine lv_iload_n hx hb dX2_delete_2 rfl (lv_at hl 0 rfl) ?_
      refine lv_aload_n hx hb dX2_delete_3 rfl (lv_at hl 1 rfl) ?_
      refine w_get cx hP 0 2 1 rfl rfl (by decide) m_47 rfl rfl dX2_delete_4 ?_
      refine lv_iconst (v := (nI 1)) hx hb dX2_delete_7 (by decide) ?_
      refine lv_isub hx hb dX2_delete_8 ?_
      refine lv_icmp_ge (tgt := 60) hx hb dX2_delete_9 (by decide) (fun c_9 => ?_) (fun c_9 => ?_)
      · have hM := if_t hM c_9
        obtain rfl := Option.some.inj hM
        obtain rfl : _ = r_2 := hX
        exact hE_2_0 _ _ _ hP hD hS (lv_sub hl [1] rfl)
      · have hM := if_f hM c_9
        refine lv_aload_n hx hb dX2_delete_12 rfl (lv_at hl 1 rfl) ?_
        refine w_get cx hP 0 2 2 rfl rfl (by decide) m_52 rfl rfl dX2_delete_13 ?_
        refine lv_iload_n hx hb dX2_delete_16 rfl (lv_at hl 0 rfl) ?_
        refine lv_aload_n hx hb dX2_delete_17 rfl (lv_at hl 1 rfl) ?_
        refine w_get cx hP 0 2 2 rfl rfl (by decide) m_52 rfl rfl dX2_delete_18 ?_
        refine lv_iload_n hx hb dX2_delete_21 rfl (lv_at hl 0 rfl) ?_
        refine lv_iconst (v := (nI 1)) hx hb dX2_delete_22 (by decide) ?_
        refine lv_iadd hx hb dX2_delete_23 ?_
        obtain ⟨g_24, hM⟩ := gd_some hM
        refine w_iald cx hP 1 rfl g_24 dX2_delete_24 ?_
        obtain ⟨g_25, hM⟩ := gd_some hM
        refine w_iast cx hP hD hS 1 rfl g_25 dX2_delete_25 [ob h_t 2 [.int t_vertices, .int t_edges, .ref h_t_firsts, .ref h_t_seconds, .ref h_t_signs], aI g h_t_firsts 9 (upd z_2.2.1 z_2.1.toNatClampNeg (z_2.2.1 (z_2.1 + (nI 1)).toNatClampNeg)), aI g h_t_seconds 9 z_2.2.2.1, aI g h_t_signs 9 z_2.2.2.2] rfl (fun H locs hP hD hS => ?_)
        refine lv_aload_n hx hb dX2_delete_26 rfl (lv_at hl 1 rfl) ?_
        refine w_get cx hP 0 2 3 rfl rfl (by decide) m_54 rfl rfl dX2_delete_27 ?_
        refine lv_iload_n hx hb dX2_delete_30 rfl (lv_at hl 0 rfl) ?_
        refine lv_aload_n hx hb dX2_delete_31 rfl (lv_at hl 1 rfl) ?_
        refine w_get cx hP 0 2 3 rfl rfl (by decide) m_54 rfl rfl dX2_delete_32 ?_
        refine lv_iload_n hx hb dX2_delete_35 rfl (lv_at hl 0 rfl) ?_
        refine lv_iconst (v := (nI 1)) hx hb dX2_delete_36 (by decide) ?_
        refine lv_iadd hx hb dX2_delete_37 ?_
        obtain ⟨g_38, hM⟩ := gd_some hM
        refine w_iald cx hP 2 rfl g_38 dX2_delete_38 ?_
        obtain ⟨g_39, hM⟩ := gd_some hM
        refine w_iast cx hP hD hS 2 rfl g_39 dX2_delete_39 [ob h_t 2 [.int t_vertices, .int t_edges, .ref h_t_firsts, .ref h_t_seconds, .ref h_t_signs], aI g h_t_firsts 9 (upd z_2.2.1 z_2.1.toNatClampNeg (z_2.2.1 (z_2.1 + (nI 1)).toNatClampNeg)), aI g h_t_seconds 9 (upd z_2.2.2.1 z_2.1.toNatClampNeg (z_2.2.2.1 (z_2.1 + (nI 1)).toNatClampNeg)), aI g h_t_signs 9 z_2.2.2.2] rfl (fun H locs hP hD hS => ?_)
        refine lv_aload_n hx hb dX2_delete_40 rfl (lv_at hl 1 rfl) ?_
        refine w_get cx hP 0 2 4 rfl rfl (by decide) m_56 rfl rfl dX2_delete_41 ?_
        refine lv_iload_n hx hb dX2_delete_44 rfl (lv_at hl 0 rfl) ?_
        refine lv_aload_n hx hb dX2_delete_45 rfl (lv_at hl 1 rfl) ?_
        refine w_get cx hP 0 2 4 rfl rfl (by decide) m_56 rfl rfl dX2_delete_46 ?_
        refine lv_iload_n hx hb dX2_delete_49 rfl (lv_at hl 0 rfl) ?_
        refine lv_iconst (v := (nI 1)) hx hb dX2_delete_50 (by decide) ?_
        refine lv_iadd hx hb dX2_delete_51 ?_
        obtain ⟨g_52, hM⟩ := gd_some hM
        refine w_iald cx hP 3 rfl g_52 dX2_delete_52 ?_
        obtain ⟨g_53, hM⟩ := gd_some hM
        refine w_iast cx hP hD hS 3 rfl g_53 dX2_delete_53 [ob h_t 2 [.int t_vertices, .int t_edges, .ref h_t_firsts, .ref h_t_seconds, .ref h_t_signs], aI g h_t_firsts 9 (upd z_2.2.1 z_2.1.toNatClampNeg (z_2.2.1 (z_2.1 + (nI 1)).toNatClampNeg)), aI g h_t_seconds 9 (upd z_2.2.2.1 z_2.1.toNatClampNeg (z_2.2.2.1 (z_2.1 + (nI 1)).toNatClampNeg)), aI g h_t_signs 9 (upd z_2.2.2.2 z_2.1.toNatClampNeg (z_2.2.2.2 (z_2.1 + (nI 1)).toNatClampNeg))] rfl (fun H locs hP hD hS => ?_)
        refine lv_iinc (v := z_2.1 + (nI 1)) (lv' := [(2, .int (z_2.1 + (nI 1))), (0, .ref h_t)]) hx hb dX2_delete_54 hl (k := 0) rfl (congrArg (fun q => z_2.1 + q) (show Int32.ofInt (1) = (nI 1) by decide)) (by decide) rfl (fun ls hl => ?_)
        refine lv_goto (tgt := 2) hx hb dX2_delete_57 (by decide) ?_
        obtain rfl := Option.some.inj hM
        exact ih _ hX _ _ _ hP hD hS (lv_sub hl [0, 1] rfl)
  exact hL_2 n _ hn _ _ _ hP hD hS (lv_sub hl [0, 1] rfl)
noncomputable def f_X2_startOf (p1 : Int32) (t_vertices : Int32) (t_edges : Int32) (a_t_firsts : Nat → Int32) (a_t_seconds : Nat → Int32) : Option (Int32) :=
  if (p1 - p1 / (nI 2) * (nI 2)) = 0 then gd (inb (p1 / (nI 2)) 9) (some (a_t_firsts (p1 / (nI 2)).toNatClampNeg)) else gd (inb (p1 / (nI 2)) 9) (some (a_t_seconds (p1 / (nI 2)).toNatClampNeg))
theorem yq_X2_startOf : yq yX2_startOf 1 := by unfold yq; decide +kernel
set_option maxHeartbeats 4000000 in
set_option maxRecDepth 100000 in
theorem c_X2_startOf (g : GG) (l : Launch) (h_t : Nat) (h_t_firsts : Nat) (h_t_seconds : Nat) (h_t_signs : Nat) (p1 : Int32) (t_vertices : Int32) (t_edges : Int32) (a_t_firsts : Nat → Int32) (a_t_seconds : Nat → Int32) {R : Int32} (hM : f_X2_startOf p1 t_vertices t_edges a_t_firsts a_t_seconds = some R) : CT g l yX2_startOf cX2_startOf 2 (some .int) 0 0 [.ref h_t, .int p1] [ob h_t 2 [.int t_vertices, .int t_edges, .ref h_t_firsts, .ref h_t_seconds, .ref h_t_signs], aI g h_t_firsts 9 a_t_firsts, aI g h_t_seconds 9 a_t_seconds] [ob h_t 2 [.int t_vertices, .int t_edges, .ref h_t_firsts, .ref h_t_seconds, .ref h_t_signs], aI g h_t_firsts 9 a_t_firsts, aI g h_t_seconds 9 a_t_seconds] (some (.int R)) := by
  refine ct_i (by decide +kernel) (Nat.le_of_ble_eq_true rfl) ?_
  intro p e s m args below meth c Q A ls cx hP hD hA hl hfin
  obtain ⟨hx, hb, hml, hown, hts, hK⟩ := id cx
  have hl : lv_has ls 2 [(0, .ref h_t), (1, .int p1)] := hl
  have hS : va_S A s.heap s.heap [] := va_S.rf
  refine lv_iload_n hx hb dX2_startOf_0 rfl (lv_at hl 1 rfl) ?_
  refine lv_iconst (v := (nI 2)) hx hb dX2_startOf_1 (by decide) ?_
  refine lv_irem hx hb dX2_startOf_2 (by decide) ?_
  refine lv_if_ne (tgt := 17) hx hb dX2_startOf_3 (by decide) (fun c_3 => ?_) (fun c_3 => ?_)
  · have hM := if_f hM c_3
    refine lv_aload_n hx hb dX2_startOf_17 rfl (lv_at hl 0 rfl) ?_
    refine w_get cx hP 0 2 3 rfl rfl (by decide) m_54 rfl rfl dX2_startOf_18 ?_
    refine lv_iload_n hx hb dX2_startOf_21 rfl (lv_at hl 1 rfl) ?_
    refine lv_iconst (v := (nI 2)) hx hb dX2_startOf_22 (by decide) ?_
    refine lv_idiv hx hb dX2_startOf_23 (by decide) ?_
    obtain ⟨g_24, hM⟩ := gd_some hM
    refine w_iald cx hP 2 rfl g_24 dX2_startOf_24 ?_
    obtain rfl := Option.some.inj hM
    exact hfin 25 _ _ _ dX2_startOf_25 hP hD hS
  · have hM := if_t hM c_3
    refine lv_aload_n hx hb dX2_startOf_6 rfl (lv_at hl 0 rfl) ?_
    refine w_get cx hP 0 2 2 rfl rfl (by decide) m_52 rfl rfl dX2_startOf_7 ?_
    refine lv_iload_n hx hb dX2_startOf_10 rfl (lv_at hl 1 rfl) ?_
    refine lv_iconst (v := (nI 2)) hx hb dX2_startOf_11 (by decide) ?_
    refine lv_idiv hx hb dX2_startOf_12 (by decide) ?_
    obtain ⟨g_13, hM⟩ := gd_some hM
    refine w_iald cx hP 1 rfl g_13 dX2_startOf_13 ?_
    refine lv_goto (tgt := 25) hx hb dX2_startOf_14 (by decide) ?_
    obtain rfl := Option.some.inj hM
    exact hfin 25 _ _ _ dX2_startOf_25 hP hD hS
noncomputable def f_X2_endOf (p1 : Int32) (t_vertices : Int32) (t_edges : Int32) (a_t_firsts : Nat → Int32) (a_t_seconds : Nat → Int32) : Option (Int32) :=
  if (p1 - p1 / (nI 2) * (nI 2)) = 0 then gd (inb (p1 / (nI 2)) 9) (some (a_t_seconds (p1 / (nI 2)).toNatClampNeg)) else gd (inb (p1 / (nI 2)) 9) (some (a_t_firsts (p1 / (nI 2)).toNatClampNeg))
theorem yq_X2_endOf : yq yX2_endOf 1 := by unfold yq; decide +kernel
set_option maxHeartbeats 4000000 in
set_option maxRecDepth 100000 in
theorem c_X2_endOf (g : GG) (l : Launch) (h_t : Nat) (h_t_firsts : Nat) (h_t_seconds : Nat) (h_t_signs : Nat) (p1 : Int32) (t_vertices : Int32) (t_edges : Int32) (a_t_firsts : Nat → Int32) (a_t_seconds : Nat → Int32) {R : Int32} (hM : f_X2_endOf p1 t_vertices t_edges a_t_firsts a_t_seconds = some R) : CT g l yX2_endOf cX2_endOf 2 (some .int) 0 0 [.ref h_t, .int p1] [ob h_t 2 [.int t_vertices, .int t_edges, .ref h_t_firsts, .ref h_t_seconds, .ref h_t_signs], aI g h_t_firsts 9 a_t_firsts, aI g h_t_seconds 9 a_t_seconds] [ob h_t 2 [.int t_vertices, .int t_edges, .ref h_t_firsts, .ref h_t_seconds, .ref h_t_signs], aI g h_t_firsts 9 a_t_firsts, aI g h_t_seconds 9 a_t_seconds] (some (.int R)) := by
  refine ct_i (by decide +kernel) (Nat.le_of_ble_eq_true rfl) ?_
  intro p e s m args below meth c Q A ls cx hP hD hA hl hfin
  obtain ⟨hx, hb, hml, hown, hts, hK⟩ := id cx
  have hl : lv_has ls 2 [(0, .ref h_t), (1, .int p1)] := hl
  have hS : va_S A s.heap s.heap [] := va_S.rf
  refine lv_iload_n hx hb dX2_endOf_0 rfl (lv_at hl 1 rfl) ?_
  refine lv_iconst (v := (nI 2)) hx hb dX2_endOf_1 (by decide) ?_
  refine lv_irem hx hb dX2_endOf_2 (by decide) ?_
  refine lv_if_ne (tgt := 17) hx hb dX2_endOf_3 (by decide) (fun c_3 => ?_) (fun c_3 => ?_)
  · have hM := if_f hM c_3
    refine lv_aload_n hx hb dX2_endOf_17 rfl (lv_at hl 0 rfl) ?_
    refine w_get cx hP 0 2 2 rfl rfl (by decide) m_52 rfl rfl dX2_endOf_18 ?_
    refine lv_iload_n hx hb dX2_endOf_21 rfl (lv_at hl 1 rfl) ?_
    refine lv_iconst (v := (nI 2)) hx hb dX2_endOf_22 (by decide) ?_
    refine lv_idiv hx hb dX2_endOf_23 (by decide) ?_
    obtain ⟨g_24, hM⟩ := gd_some hM
    refine w_iald cx hP 1 rfl g_24 dX2_endOf_24 ?_
    obtain rfl := Option.some.inj hM
    exact hfin 25 _ _ _ dX2_endOf_25 hP hD hS
  · have hM := if_t hM c_3
    refine lv_aload_n hx hb dX2_endOf_6 rfl (lv_at hl 0 rfl) ?_
    refine w_get cx hP 0 2 3 rfl rfl (by decide) m_54 rfl rfl dX2_endOf_7 ?_
    refine lv_iload_n hx hb dX2_endOf_10 rfl (lv_at hl 1 rfl) ?_
    refine lv_iconst (v := (nI 2)) hx hb dX2_endOf_11 (by decide) ?_
    refine lv_idiv hx hb dX2_endOf_12 (by decide) ?_
    obtain ⟨g_13, hM⟩ := gd_some hM
    refine w_iald cx hP 2 rfl g_13 dX2_endOf_13 ?_
    refine lv_goto (tgt := 25) hx hb dX2_endOf_14 (by decide) ?_
    obtain rfl := Option.some.inj hM
    exact hfin 25 _ _ _ dX2_endOf_25 hP hD hS
noncomputable def f_X2_leadsOn (p1 : Int32) (p2 : Int32) (t_vertices : Int32) (t_edges : Int32) (a_t_firsts : Nat → Int32) (a_t_seconds : Nat → Int32) : Option (Int32) :=
  bd (f_X2_endOf p1 t_vertices t_edges a_t_firsts a_t_seconds) (fun (q_2 : Int32) => bd (f_X2_startOf p2 t_vertices t_edges a_t_firsts a_t_seconds) (fun (q_7 : Int32) => if q_2 = q_7 then if p2 = (p1 ^^^ (nI 1)) then some (nI 0) else some (nI 1) else some (nI 0)))
theorem yq_X2_leadsOn : yq yX2_leadsOn 2 := by unfold yq; decide +kernel
set_option maxHeartbeats 4000000 in
set_option maxRecDepth 100000 in
theorem c_X2_leadsOn (g : GG) (l : Launch) (h_t : Nat) (h_t_firsts : Nat) (h_t_seconds : Nat) (h_t_signs : Nat) (p1 : Int32) (p2 : Int32) (t_vertices : Int32) (t_edges : Int32) (a_t_firsts : Nat → Int32) (a_t_seconds : Nat → Int32) {R : Int32} (hM : f_X2_leadsOn p1 p2 t_vertices t_edges a_t_firsts a_t_seconds = some R) : CT g l yX2_leadsOn cX2_leadsOn 3 (some .boolean) 1 21 [.ref h_t, .int p1, .int p2] [ob h_t 2 [.int t_vertices, .int t_edges, .ref h_t_firsts, .ref h_t_seconds, .ref h_t_signs], aI g h_t_firsts 9 a_t_firsts, aI g h_t_seconds 9 a_t_seconds] [ob h_t 2 [.int t_vertices, .int t_edges, .ref h_t_firsts, .ref h_t_seconds, .ref h_t_signs], aI g h_t_firsts 9 a_t_firsts, aI g h_t_seconds 9 a_t_seconds] (some (.int R)) := by
  refine ct_z (by decide +kernel) (Nat.le_of_ble_eq_true rfl) ?_
  intro p e s m args below meth c Q A ls cx hP hD hA hl hfin
  obtain ⟨hx, hb, hml, hown, hts, hK⟩ := id cx
  have hl : lv_has ls 3 [(0, .ref h_t), (1, .int p1), (2, .int p2)] := hl
  have hS : va_S A s.heap s.heap [] := va_S.rf
  refine lv_aload_n hx hb dX2_leadsOn_0 rfl (lv_at hl 0 rfl) ?_
  refine lv_iload_n hx hb dX2_leadsOn_1 rfl (lv_at hl 1 rfl) ?_
  obtain ⟨q_2, hc_2, hM⟩ := bd_some hM
  refine w_callV cx hP hD hS hA (c_X2_endOf g l h_t h_t_firsts h_t_seconds h_t_signs p1 t_vertices t_edges a_t_firsts a_t_seconds hc_2) [0, 1, 2] rfl (by decide) rfl [ob h_t 2 [.int t_vertices, .int t_edges, .ref h_t_firsts, .ref h_t_seconds, .ref h_t_signs], aI g h_t_firsts 9 a_t_firsts, aI g h_t_seconds 9 a_t_seconds] rfl 0 2 rfl rfl yq_X2_endOf rfl m_435 m_356 m_357 m_18 m_358 ⟨Nat.le_of_ble_eq_true rfl, Nat.le_of_ble_eq_true rfl⟩ rfl rfl hl.1 (Nat.le_of_ble_eq_true rfl) dX2_leadsOn_2 ⟨Nat.le_refl 0, Nat.le_refl 0⟩ rfl (fun H locs hP hD hS => ?_)
  refine lv_aload_n hx hb dX2_leadsOn_5 rfl (lv_at hl 0 rfl) ?_
  refine lv_iload_n hx hb dX2_leadsOn_6 rfl (lv_at hl 2 rfl) ?_
  obtain ⟨q_7, hc_7, hM⟩ := bd_some hM
  refine w_callV cx hP hD hS hA (c_X2_startOf g l h_t h_t_firsts h_t_seconds h_t_signs p2 t_vertices t_edges a_t_firsts a_t_seconds hc_7) [0, 1, 2] rfl (by decide) rfl [ob h_t 2 [.int t_vertices, .int t_edges, .ref h_t_firsts, .ref h_t_seconds, .ref h_t_signs], aI g h_t_firsts 9 a_t_firsts, aI g h_t_seconds 9 a_t_seconds] rfl 0 2 rfl rfl yq_X2_startOf rfl m_436 m_384 m_385 m_18 m_386 ⟨Nat.le_of_ble_eq_true rfl, Nat.le_of_ble_eq_true rfl⟩ rfl rfl hl.1 (Nat.le_of_ble_eq_true rfl) dX2_leadsOn_7 ⟨Nat.le_refl 0, Nat.le_refl 0⟩ rfl (fun H locs hP hD hS => ?_)
  refine lv_icmp_ne (tgt := 24) hx hb dX2_leadsOn_10 (by decide) (fun c_10 => ?_) (fun c_10 => ?_)
  · have hM := if_f hM c_10
    refine lv_iconst (v := (nI 0)) hx hb dX2_leadsOn_24 (by decide) ?_
    have hz : bq (nI 0) = true := by decide
    obtain rfl := Option.some.inj hM
    exact hfin 25 _ _ _ dX2_leadsOn_25 hz hP hD hS
  · have hM := if_t hM c_10
    refine lv_iload_n hx hb dX2_leadsOn_13 rfl (lv_at hl 2 rfl) ?_
    refine lv_iload_n hx hb dX2_leadsOn_14 rfl (lv_at hl 1 rfl) ?_
    refine lv_iconst (v := (nI 1)) hx hb dX2_leadsOn_15 (by decide) ?_
    refine lv_ixor hx hb dX2_leadsOn_16 ?_
    refine lv_icmp_eq (tgt := 24) hx hb dX2_leadsOn_17 (by decide) (fun c_17 => ?_) (fun c_17 => ?_)
    · have hM := if_t hM c_17
      refine lv_iconst (v := (nI 0)) hx hb dX2_leadsOn_24 (by decide) ?_
      have hz : bq (nI 0) = true := by decide
      obtain rfl := Option.some.inj hM
      exact hfin 25 _ _ _ dX2_leadsOn_25 hz hP hD hS
    · have hM := if_f hM c_17
      refine lv_iconst (v := (nI 1)) hx hb dX2_leadsOn_20 (by decide) ?_
      refine lv_goto (tgt := 25) hx hb dX2_leadsOn_21 (by decide) ?_
      have hz : bq (nI 1) = true := by decide
      obtain rfl := Option.some.inj hM
      exact hfin 25 _ _ _ dX2_leadsOn_25 hz hP hD hS
noncomputable def b_X2_edgesAt_4 (p1 : Int32) (t_edges : Int32) (a_t_firsts : Nat → Int32) (a_t_seconds : Nat → Int32) : Int32 × Int32 → Option ((Int32 × Int32) ⊕ ((Int32))) := fun z_4 =>
  if t_edges ≤ z_4.1 then some (.inr z_4.2) else gd (inb z_4.1 9) (if (a_t_firsts z_4.1.toNatClampNeg) = p1 then some (.inl (z_4.1 + (nI 1), z_4.2 + (nI 1))) else gd (inb z_4.1 9) (if (a_t_seconds z_4.1.toNatClampNeg) = p1 then some (.inl (z_4.1 + (nI 1), z_4.2 + (nI 1))) else some (.inl (z_4.1 + (nI 1), z_4.2))))
noncomputable def f_X2_edgesAt (p1 : Int32) (t_vertices : Int32) (t_edges : Int32) (a_t_firsts : Nat → Int32) (a_t_seconds : Nat → Int32) : Option (Int32) :=
  bd (wh (b_X2_edgesAt_4 p1 t_edges a_t_firsts a_t_seconds) ((nI 0), (nI 0))) (fun (r_4 : Int32) => some r_4)
theorem yq_X2_edgesAt : yq yX2_edgesAt 1 := by unfold yq; decide +kernel
set_option maxHeartbeats 4000000 in
set_option maxRecDepth 100000 in
theorem c_X2_edgesAt (g : GG) (l : Launch) (h_t : Nat) (h_t_firsts : Nat) (h_t_seconds : Nat) (h_t_signs : Nat) (p1 : Int32) (t_vertices : Int32) (t_edges : Int32) (a_t_firsts : Nat → Int32) (a_t_seconds : Nat → Int32) {R : Int32} (hM : f_X2_edgesAt p1 t_vertices t_edges a_t_firsts a_t_seconds = some R) : CT g l yX2_edgesAt cX2_edgesAt 4 (some .int) 0 0 [.ref h_t, .int p1] [ob h_t 2 [.int t_vertices, .int t_edges, .ref h_t_firsts, .ref h_t_seconds, .ref h_t_signs], aI g h_t_firsts 9 a_t_firsts, aI g h_t_seconds 9 a_t_seconds] [ob h_t 2 [.int t_vertices, .int t_edges, .ref h_t_firsts, .ref h_t_seconds, .ref h_t_signs], aI g h_t_firsts 9 a_t_firsts, aI g h_t_seconds 9 a_t_seconds] (some (.int R)) := by
  refine ct_i (by decide +kernel) (Nat.le_of_ble_eq_true rfl) ?_
  intro p e s m args below meth c Q A ls cx hP hD hA hl hfin
  obtain ⟨hx, hb, hml, hown, hts, hK⟩ := id cx
  have hl : lv_has ls 4 [(0, .ref h_t), (1, .int p1)] := hl
  have hS : va_S A s.heap s.heap [] := va_S.rf
  refine lv_iconst (v := (nI 0)) hx hb dX2_edgesAt_0 (by decide) ?_
  refine lv_istore_n (lv' := [(2, .int (nI 0)), (0, .ref h_t), (1, .int p1)]) hx hb dX2_edgesAt_1 rfl hl (by decide) rfl (fun ls hl => ?_)
  refine lv_iconst (v := (nI 0)) hx hb dX2_edgesAt_2 (by decide) ?_
  refine lv_istore_n (lv' := [(3, .int (nI 0)), (2, .int (nI 0)), (0, .ref h_t), (1, .int p1)]) hx hb dX2_edgesAt_3 rfl hl (by decide) rfl (fun ls hl => ?_)
  obtain ⟨r_4, hw, hM⟩ := bd_some hM
  obtain ⟨n, hn⟩ := wh_some hw
  clear hw
  have hE_4_0 : ∀ (H : Heap) (locs : List Loc) (ls : Array Slot), va_P (gD g) vwCl [ob h_t 2 [.int t_vertices, .int t_edges, .ref h_t_firsts, .ref h_t_seconds, .ref h_t_signs], aI g h_t_firsts 9 a_t_firsts, aI g h_t_seconds 9 a_t_seconds] H → va_D A [ob h_t 2 [.int t_vertices, .int t_edges, .ref h_t_firsts, .ref h_t_seconds, .ref h_t_signs], aI g h_t_firsts 9 a_t_firsts, aI g h_t_seconds 9 a_t_seconds] → va_S A s.heap H locs → lv_has ls 4 [(2, .int r_4)] → W p l e (rmv 0 0) s m args below meth c H locs 0 0 Q (F0 m 41 ls []) := by
    intro H locs ls hP hD hS hl
    refine lv_iload_n hx hb dX2_edgesAt_41 rfl (lv_at hl 0 rfl) ?_
    obtain rfl := Option.some.inj hM
    exact hfin 42 _ _ _ dX2_edgesAt_42 hP hD hS
  clear hM
  have hL_4 : ∀ (n : Nat) (z_4 : Int32 × Int32), it (b_X2_edgesAt_4 p1 t_edges a_t_firsts a_t_seconds) n z_4 = some r_4 → ∀ (H : Heap) (locs : List Loc) (ls : Array Slot), va_P (gD g) vwCl [ob h_t 2 [.int t_vertices, .int t_edges, .ref h_t_firsts, .ref h_t_seconds, .ref h_t_signs], aI g h_t_firsts 9 a_t_firsts, aI g h_t_seconds 9 a_t_seconds] H → va_D A [ob h_t 2 [.int t_vertices, .int t_edges, .ref h_t_firsts, .ref h_t_seconds, .ref h_t_signs], aI g h_t_firsts 9 a_t_firsts, aI g h_t_seconds 9 a_t_seconds] → va_S A s.heap H locs → lv_has ls 4 [(3, .int z_4.1), (2, .int z_4.2), (0, .ref h_t), (1, .int p1)] → W p l e (rmv 0 0) s m args below meth c H locs 0 0 Q (F0 m 4 ls []) := by
    intro n
    induction n with
    | zero => intro z_4 hn; exact (it_zero hn).elim
    | succ n ih =>
      intro z_4 hn H locs ls hP hD hS hl
      obtain ⟨x, hM, hX⟩ := it_succ hn
      clear hn
      refine lv_iload_n hx hb dX2_edgesAt_4 rfl (lv_at hl 0 rfl) ?_
      refine lv_aload_n hx hb dX2_edgesAt_5 rfl (lv_at hl 2 rfl) ?_
      refine w_get cx hP 0 2 1 rfl rfl (by decide) m_47 rfl rfl dX2_edgesAt_6 ?_
      refine lv_icmp_ge (tgt := 41) hx hb dX2_edgesAt_9 (by decide) (fun c_9 => ?_) (fun c_9 => ?_)
      · have hM := if_t hM c_9
        obtain rfl := Option.some.inj hM
        obtain rfl : _ = r_4 := hX
        exact hE_4_0 _ _ _ hP hD hS (lv_sub hl [1] rfl)
      · have hM := if_f hM c_9
        refine lv_aload_n hx hb dX2_edgesAt_12 rfl (lv_at hl 2 rfl) ?_
        refine w_get cx hP 0 2 2 rfl rfl (by decide) m_52 rfl rfl dX2_edgesAt_13 ?_
        refine lv_iload_n hx hb dX2_edgesAt_16 rfl (lv_at hl 0 rfl) ?_
        obtain ⟨g_17, hM⟩ := gd_some hM
        refine w_iald cx hP 1 rfl g_17 dX2_edgesAt_17 ?_
        refine lv_iload_n hx hb dX2_edgesAt_18 rfl (lv_at hl 3 rfl) ?_
        refine lv_icmp_eq (tgt := 32) hx hb dX2_edgesAt_19 (by decide) (fun c_19 => ?_) (fun c_19 => ?_)
        · have hM := if_t hM c_19
          refine lv_iinc (v := z_4.2 + (nI 1)) (lv' := [(2, .int (z_4.2 + (nI 1))), (3, .int z_4.1), (0, .ref h_t), (1, .int p1)]) hx hb dX2_edgesAt_32 hl (k := 1) rfl (congrArg (fun q => z_4.2 + q) (show Int32.ofInt (1) = (nI 1) by decide)) (by decide) rfl (fun ls hl => ?_)
          refine lv_iinc (v := z_4.1 + (nI 1)) (lv' := [(3, .int (z_4.1 + (nI 1))), (2, .int (z_4.2 + (nI 1))), (0, .ref h_t), (1, .int p1)]) hx hb dX2_edgesAt_35 hl (k := 1) rfl (congrArg (fun q => z_4.1 + q) (show Int32.ofInt (1) = (nI 1) by decide)) (by decide) rfl (fun ls hl => ?_)
          refine lv_goto (tgt := 4) hx hb dX2_edgesAt_38 (by decide) ?_
          obtain rfl := Option.some.inj hM
          exact ih _ hX _ _ _ hP hD hS (lv_sub hl [0, 1, 2, 3] rfl)
        · have hM := if_f hM c_19
          refine lv_aload_n hx hb dX2_edgesAt_22 rfl (lv_at hl 2 rfl) ?_
          refine w_get cx hP 0 2 3 rfl rfl (by decide) m_54 rfl rfl dX2_edgesAt_23 ?_
          refine lv_iload_n hx hb dX2_edgesAt_26 rfl (lv_at hl 0 rfl) ?_
          obtain ⟨g_27, hM⟩ := gd_some hM
          refine w_iald cx hP 2 rfl g_27 dX2_edgesAt_27 ?_
          refine lv_iload_n hx hb dX2_edgesAt_28 rfl (lv_at hl 3 rfl) ?_
          refine lv_icmp_ne (tgt := 35) hx hb dX2_edgesAt_29 (by decide) (fun c_29 => ?_) (fun c_29 => ?_)
          · have hM := if_f hM c_29
            refine lv_iinc (v := z_4.1 + (nI 1)) (lv' := [(3, .int (z_4.1 + (nI 1))), (2, .int z_4.2), (0, .ref h_t), (1, .int p1)]) hx hb dX2_edgesAt_35 hl (k := 0) rfl (congrArg (fun q => z_4.1 + q) (show Int32.ofInt (1) = (nI 1) by decide)) (by decide) rfl (fun ls hl => ?_)
            refine lv_goto (tgt := 4) hx hb dX2_edgesAt_38 (by decide) ?_
            obtain rfl := Option.some.inj hM
            exact ih _ hX _ _ _ hP hD hS (lv_sub hl [0, 1, 2, 3] rfl)
          · have hM := if_t hM c_29
            refine lv_iinc (v := z_4.2 + (nI 1)) (lv' := [(2, .int (z_4.2 + (nI 1))), (3, .int z_4.1), (0, .ref h_t), (1, .int p1)]) hx hb dX2_edgesAt_32 hl (k := 1) rfl (congrArg (fun q => z_4.2 + q) (show Int32.ofInt (1) = (nI 1) by decide)) (by decide) rfl (fun ls hl => ?_)
            refine lv_iinc (v := z_4.1 + (nI 1)) (lv' := [(3, .int (z_4.1 + (nI 1))), (2, .int (z_4.2 + (nI 1))), (0, .ref h_t), (1, .int p1)]) hx hb dX2_edgesAt_35 hl (k := 1) rfl (congrArg (fun q => z_4.1 + q) (show Int32.ofInt (1) = (nI 1) by decide)) (by decide) rfl (fun ls hl => ?_)
            refine lv_goto (tgt := 4) hx hb dX2_edgesAt_38 (by decide) ?_
            obtain rfl := Option.some.inj hM
            exact ih _ hX _ _ _ hP hD hS (lv_sub hl [0, 1, 2, 3] rfl)
  exact hL_4 n _ hn _ _ _ hP hD hS (lv_sub hl [0, 1, 2, 3] rfl)
noncomputable def b_X2_edgesBetween_5 (p1 : Int32) (p2 : Int32) (t_edges : Int32) (a_t_firsts : Nat → Int32) (a_t_seconds : Nat → Int32) : Int32 × Int32 → Option ((Int32 × Int32) ⊕ ((Int32))) := fun z_5 =>
  if t_edges ≤ z_5.1 then some (.inr z_5.2) else gd (inb z_5.1 9) (bd (if (a_t_firsts z_5.1.toNatClampNeg) = p1 then gd (inb z_5.1 9) (if (a_t_seconds z_5.1.toNatClampNeg) = p2 then some (nI 1) else some (nI 0)) else some (nI 0)) (fun (j_22 : Int32) => gd (inb z_5.1 9) (bd (if (a_t_firsts z_5.1.toNatClampNeg) = p2 then gd (inb z_5.1 9) (if (a_t_seconds z_5.1.toNatClampNeg) = p1 then some (nI 1) else some (nI 0)) else some (nI 0)) (fun (j_51 : Int32) => if j_22 = 0 then if j_51 = 0 then some (.inl (z_5.1 + (nI 1), z_5.2)) else some (.inl (z_5.1 + (nI 1), z_5.2 + (nI 1))) else some (.inl (z_5.1 + (nI 1), z_5.2 + (nI 1)))))))
noncomputable def f_X2_edgesBetween (p1 : Int32) (p2 : Int32) (t_vertices : Int32) (t_edges : Int32) (a_t_firsts : Nat → Int32) (a_t_seconds : Nat → Int32) : Option (Int32) :=
  bd (wh (b_X2_edgesBetween_5 p1 p2 t_edges a_t_firsts a_t_seconds) ((nI 0), (nI 0))) (fun (r_5 : Int32) => some r_5)
theorem yq_X2_edgesBetween : yq yX2_edgesBetween 2 := by unfold yq; decide +kernel
set_option maxHeartbeats 4000000 in
set_option maxRecDepth 100000 in
theorem c_X2_edgesBetween (g : GG) (l : Launch) (h_t : Nat) (h_t_firsts : Nat) (h_t_seconds : Nat) (h_t_signs : Nat) (p1 : Int32) (p2 : Int32) (t_vertices : Int32) (t_edges : Int32) (a_t_firsts : Nat → Int32) (a_t_seconds : Nat → Int32) {R : Int32} (hM : f_X2_edgesBetween p1 p2 t_vertices t_edges a_t_firsts a_t_seconds = some R) : CT g l yX2_edgesBetween cX2_edgesBetween 7 (some .int) 0 0 [.ref h_t, .int p1, .int p2] [ob h_t 2 [.int t_vertices, .int t_edges, .ref h_t_firsts, .ref h_t_seconds, .ref h_t_signs], aI g h_t_firsts 9 a_t_firsts, aI g h_t_seconds 9 a_t_seconds] [ob h_t 2 [.int t_vertices, .int t_edges, .ref h_t_firsts, .ref h_t_seconds, .ref h_t_signs], aI g h_t_firsts 9 a_t_firsts, aI g h_t_seconds 9 a_t_seconds] (some (.int R)) := by
  refine ct_i (by decide +kernel) (Nat.le_of_ble_eq_true rfl) ?_
  intro p e s m args below meth c Q A ls cx hP hD hA hl hfin
  obtain ⟨hx, hb, hml, hown, hts, hK⟩ := id cx
  have hl : lv_has ls 7 [(0, .ref h_t), (1, .int p1), (2, .int p2)] := hl
  have hS : va_S A s.heap s.heap [] := va_S.rf
  refine lv_iconst (v := (nI 0)) hx hb dX2_edgesBetween_0 (by decide) ?_
  refine lv_istore_n (lv' := [(3, .int (nI 0)), (0, .ref h_t), (1, .int p1), (2, .int p2)]) hx hb dX2_edgesBetween_1 rfl hl (by decide) rfl (fun ls hl => ?_)
  refine lv_iconst (v := (nI 0)) hx hb dX2_edgesBetween_2 (by decide) ?_
  refine lv_istore (lv' := [(4, .int (nI 0)), (3, .int (nI 0)), (0, .ref h_t), (1, .int p1), (2, .int p2)]) hx hb dX2_edgesBetween_3 hl (by decide) rfl (fun ls hl => ?_)
  obtain ⟨r_5, hw, hM⟩ := bd_some hM
  obtain ⟨n, hn⟩ := wh_some hw
  clear hw
  have hE_5_0 : ∀ (H : Heap) (locs : List Loc) (ls : Array Slot), va_P (gD g) vwCl [ob h_t 2 [.int t_vertices, .int t_edges, .ref h_t_firsts, .ref h_t_seconds, .ref h_t_signs], aI g h_t_firsts 9 a_t_firsts, aI g h_t_seconds 9 a_t_seconds] H → va_D A [ob h_t 2 [.int t_vertices, .int t_edges, .ref h_t_firsts, .ref h_t_seconds, .ref h_t_signs], aI g h_t_firsts 9 a_t_firsts, aI g h_t_seconds 9 a_t_seconds] → va_S A s.heap H locs → lv_has ls 7 [(3, .int r_5)] → W p l e (rmv 0 0) s m args below meth c H locs 0 0 Q (F0 m 91 ls []) := by
    intro H locs ls hP hD hS hl
    refine lv_iload_n hx hb dX2_edgesBetween_91 rfl (lv_at hl 0 rfl) ?_
    obtain rfl := Option.some.inj hM
    exact hfin 92 _ _ _ dX2_edgesBetween_92 hP hD hS
  clear hM
  have hL_5 : ∀ (n : Nat) (z_5 : Int32 × Int32), it (b_X2_edgesBetween_5 p1 p2 t_edges a_t_firsts a_t_seconds) n z_5 = some r_5 → ∀ (H : Heap) (locs : List Loc) (ls : Array Slot), va_P (gD g) vwCl [ob h_t 2 [.int t_vertices, .int t_edges, .ref h_t_firsts, .ref h_t_seconds, .ref h_t_signs], aI g h_t_firsts 9 a_t_firsts, aI g h_t_seconds 9 a_t_seconds] H → va_D A [ob h_t 2 [.int t_vertices, .int t_edges, .ref h_t_firsts, .ref h_t_seconds, .ref h_t_signs], aI g h_t_firsts 9 a_t_firsts, aI g h_t_seconds 9 a_t_seconds] → va_S A s.heap H locs → lv_has ls 7 [(4, .int z_5.1), (3, .int z_5.2), (0, .ref h_t), (1, .int p1), (2, .int p2)] → W p l e (rmv 0 0) s m args below meth c H locs 0 0 Q (F0 m 5 ls []) := by
    intro n
    induction n with
    | zero => intro z_5 hn; exact (it_zero hn).elim
    | succ n ih =>
      intro z_5 hn H locs ls hP hD hS hl
      obtain ⟨x, hM, hX⟩ := it_succ hn
      clear hn
      refine lv_iload hx hb dX2_edgesBetween_5 (lv_at hl 0 rfl) ?_
      refine lv_aload_n hx hb dX2_edgesBetween_7 rfl (lv_at hl 2 rfl) ?_
      refine w_get cx hP 0 2 1 rfl rfl (by decide) m_47 rfl rfl dX2_edgesBetween_8 ?_
      refine lv_icmp_ge (tgt := 91) hx hb dX2_edgesBetween_11 (by decide) (fun c_11 => ?_) (fun c_11 => ?_)
      · have hM := if_t hM c_11
        obtain rfl := Option.some.inj hM
        obtain rfl : _ = r_5 := hX
        exact hE_5_0 _ _ _ hP hD hS (lv_sub hl [1] rfl)
      · have hM := if_f hM c_11
        refine lv_aload_n hx hb dX2_edgesBetween_14 rfl (lv_at hl 2 rfl) ?_
        refine w_get cx hP 0 2 2 rfl rfl (by decide) m_52 rfl rfl dX2_edgesBetween_15 ?_
        refine lv_iload hx hb dX2_edgesBetween_18 (lv_at hl 0 rfl) ?_
        obtain ⟨g_20, hM⟩ := gd_some hM
        refine w_iald cx hP 1 rfl g_20 dX2_edgesBetween_20 ?_
        refine lv_iload_n hx hb dX2_edgesBetween_21 rfl (lv_at hl 3 rfl) ?_
        obtain ⟨j_22, hB, hM⟩ := bd_some hM
        have hJ_22 : ∀ (H : Heap) (locs : List Loc) (ls : Array Slot), va_P (gD g) vwCl [ob h_t 2 [.int t_vertices, .int t_edges, .ref h_t_firsts, .ref h_t_seconds, .ref h_t_signs], aI g h_t_firsts 9 a_t_firsts, aI g h_t_seconds 9 a_t_seconds] H → va_D A [ob h_t 2 [.int t_vertices, .int t_edges, .ref h_t_firsts, .ref h_t_seconds, .ref h_t_signs], aI g h_t_firsts 9 a_t_firsts, aI g h_t_seconds 9 a_t_seconds] → va_S A s.heap H locs → lv_has ls 7 [(4, .int z_5.1), (3, .int z_5.2), (0, .ref h_t), (1, .int p1), (2, .int p2)] → W p l e (rmv 0 0) s m args below meth c H locs 0 0 Q (F0 m 41 ls [.int j_22]) := by
          intro H locs ls hP hD hS hl
          refine lv_istore (lv' := [(5, .int j_22), (4, .int z_5.1), (3, .int z_5.2), (0, .ref h_t), (1, .int p1), (2, .int p2)]) hx hb dX2_edgesBetween_41 hl (by decide) rfl (fun ls hl => ?_)
          refine lv_aload_n hx hb dX2_edgesBetween_43 rfl (lv_at hl 3 rfl) ?_
          refine w_get cx hP 0 2 2 rfl rfl (by decide) m_52 rfl rfl dX2_edgesBetween_44 ?_
          refine lv_iload hx hb dX2_edgesBetween_47 (lv_at hl 1 rfl) ?_
          obtain ⟨g_49, hM⟩ := gd_some hM
          refine w_iald cx hP 1 rfl g_49 dX2_edgesBetween_49 ?_
          refine lv_iload_n hx hb dX2_edgesBetween_50 rfl (lv_at hl 5 rfl) ?_
          obtain ⟨j_51, hB, hM⟩ := bd_some hM
          have hJ_51 : ∀ (H : Heap) (locs : List Loc) (ls : Array Slot), va_P (gD g) vwCl [ob h_t 2 [.int t_vertices, .int t_edges, .ref h_t_firsts, .ref h_t_seconds, .ref h_t_signs], aI g h_t_firsts 9 a_t_firsts, aI g h_t_seconds 9 a_t_seconds] H → va_D A [ob h_t 2 [.int t_vertices, .int t_edges, .ref h_t_firsts, .ref h_t_seconds, .ref h_t_signs], aI g h_t_firsts 9 a_t_firsts, aI g h_t_seconds 9 a_t_seconds] → va_S A s.heap H locs → lv_has ls 7 [(5, .int j_22), (4, .int z_5.1), (3, .int z_5.2), (0, .ref h_t), (1, .int p1), (2, .int p2)] → W p l e (rmv 0 0) s m args below meth c H locs 0 0 Q (F0 m 70 ls [.int j_51]) := by
            intro H locs ls hP hD hS hl
            refine lv_istore (lv' := [(6, .int j_51), (5, .int j_22), (4, .int z_5.1), (3, .int z_5.2), (0, .ref h_t), (1, .int p1), (2, .int p2)]) hx hb dX2_edgesBetween_70 hl (by decide) rfl (fun ls hl => ?_)
            refine lv_iload hx hb dX2_edgesBetween_72 (lv_at hl 1 rfl) ?_
            refine lv_if_ne (tgt := 82) hx hb dX2_edgesBetween_74 (by decide) (fun c_74 => ?_) (fun c_74 => ?_)
            · have hM := if_f hM c_74
              refine lv_iinc (v := z_5.2 + (nI 1)) (lv' := [(3, .int (z_5.2 + (nI 1))), (6, .int j_51), (5, .int j_22), (4, .int z_5.1), (0, .ref h_t), (1, .int p1), (2, .int p2)]) hx hb dX2_edgesBetween_82 hl (k := 3) rfl (congrArg (fun q => z_5.2 + q) (show Int32.ofInt (1) = (nI 1) by decide)) (by decide) rfl (fun ls hl => ?_)
              refine lv_iinc (v := z_5.1 + (nI 1)) (lv' := [(4, .int (z_5.1 + (nI 1))), (3, .int (z_5.2 + (nI 1))), (6, .int j_51), (5, .int j_22), (0, .ref h_t), (1, .int p1), (2, .int p2)]) hx hb dX2_edgesBetween_85 hl (k := 3) rfl (congrArg (fun q => z_5.1 + q) (show Int32.ofInt (1) = (nI 1) by decide)) (by decide) rfl (fun ls hl => ?_)
              refine lv_goto (tgt := 5) hx hb dX2_edgesBetween_88 (by decide) ?_
              obtain rfl := Option.some.inj hM
              exact ih _ hX _ _ _ hP hD hS (lv_sub hl [0, 1, 4, 5, 6] rfl)
            · have hM := if_t hM c_74
              refine lv_iload hx hb dX2_edgesBetween_77 (lv_at hl 0 rfl) ?_
              refine lv_if_eq (tgt := 85) hx hb dX2_edgesBetween_79 (by decide) (fun c_79 => ?_) (fun c_79 => ?_)
              · have hM := if_t hM c_79
                refine lv_iinc (v := z_5.1 + (nI 1)) (lv' := [(4, .int (z_5.1 + (nI 1))), (6, .int j_51), (5, .int j_22), (3, .int z_5.2), (0, .ref h_t), (1, .int p1), (2, .int p2)]) hx hb dX2_edgesBetween_85 hl (k := 2) rfl (congrArg (fun q => z_5.1 + q) (show Int32.ofInt (1) = (nI 1) by decide)) (by decide) rfl (fun ls hl => ?_)
                refine lv_goto (tgt := 5) hx hb dX2_edgesBetween_88 (by decide) ?_
                obtain rfl := Option.some.inj hM
                exact ih _ hX _ _ _ hP hD hS (lv_sub hl [0, 3, 4, 5, 6] rfl)
              · have hM := if_f hM c_79
                refine lv_iinc (v := z_5.2 + (nI 1)) (lv' := [(3, .int (z_5.2 + (nI 1))), (6, .int j_51), (5, .int j_22), (4, .int z_5.1), (0, .ref h_t), (1, .int p1), (2, .int p2)]) hx hb dX2_edgesBetween_82 hl (k := 3) rfl (congrArg (fun q => z_5.2 + q) (show Int32.ofInt (1) = (nI 1) by decide)) (by decide) rfl (fun ls hl => ?_)
                refine lv_iinc (v := z_5.1 + (nI 1)) (lv' := [(4, .int (z_5.1 + (nI 1))), (3, .int (z_5.2 + (nI 1))), (6, .int j_51), (5, .int j_22), (0, .ref h_t), (1, .int p1), (2, .int p2)]) hx hb dX2_edgesBetween_85 hl (k := 3) rfl (congrArg (fun q => z_5.1 + q) (show Int32.ofInt (1) = (nI 1) by decide)) (by decide) rfl (fun ls hl => ?_)
                refine lv_goto (tgt := 5) hx hb dX2_edgesBetween_88 (by decide) ?_
                obtain rfl := Option.some.inj hM
                exact ih _ hX _ _ _ hP hD hS (lv_sub hl [0, 1, 4, 5, 6] rfl)
          clear hM
          have hM := hB
          clear hB
          refine lv_icmp_ne (tgt := 69) hx hb dX2_edgesBetween_51 (by decide) (fun c_51 => ?_) (fun c_51 => ?_)
          · have hM := if_f hM c_51
            refine lv_iconst (v := (nI 0)) hx hb dX2_edgesBetween_69 (by decide) ?_
            obtain rfl := Option.some.inj hM
            exact hJ_51 _ _ _ hP hD hS (lv_sub hl [0, 1, 2, 3, 4, 5] rfl)
          · have hM := if_t hM c_51
            refine lv_aload_n hx hb dX2_edgesBetween_54 rfl (lv_at hl 3 rfl) ?_
            refine w_get cx hP 0 2 3 rfl rfl (by decide) m_54 rfl rfl dX2_edgesBetween_55 ?_
            refine lv_iload hx hb dX2_edgesBetween_58 (lv_at hl 1 rfl) ?_
            obtain ⟨g_60, hM⟩ := gd_some hM
            refine w_iald cx hP 2 rfl g_60 dX2_edgesBetween_60 ?_
            refine lv_iload_n hx hb dX2_edgesBetween_61 rfl (lv_at hl 4 rfl) ?_
            refine lv_icmp_ne (tgt := 69) hx hb dX2_edgesBetween_62 (by decide) (fun c_62 => ?_) (fun c_62 => ?_)
            · have hM := if_f hM c_62
              refine lv_iconst (v := (nI 0)) hx hb dX2_edgesBetween_69 (by decide) ?_
              obtain rfl := Option.some.inj hM
              exact hJ_51 _ _ _ hP hD hS (lv_sub hl [0, 1, 2, 3, 4, 5] rfl)
            · have hM := if_t hM c_62
              refine lv_iconst (v := (nI 1)) hx hb dX2_edgesBetween_65 (by decide) ?_
              refine lv_goto (tgt := 70) hx hb dX2_edgesBetween_66 (by decide) ?_
              obtain rfl := Option.some.inj hM
              exact hJ_51 _ _ _ hP hD hS (lv_sub hl [0, 1, 2, 3, 4, 5] rfl)
        clear hM
        have hM := hB
        clear hB
        refine lv_icmp_ne (tgt := 40) hx hb dX2_edgesBetween_22 (by decide) (fun c_22 => ?_) (fun c_22 => ?_)
        · have hM := if_f hM c_22
          refine lv_iconst (v := (nI 0)) hx hb dX2_edgesBetween_40 (by decide) ?_
          obtain rfl := Option.some.inj hM
          exact hJ_22 _ _ _ hP hD hS (lv_sub hl [0, 1, 2, 3, 4] rfl)
        · have hM := if_t hM c_22
          refine lv_aload_n hx hb dX2_edgesBetween_25 rfl (lv_at hl 2 rfl) ?_
          refine w_get cx hP 0 2 3 rfl rfl (by decide) m_54 rfl rfl dX2_edgesBetween_26 ?_
          refine lv_iload hx hb dX2_edgesBetween_29 (lv_at hl 0 rfl) ?_
          obtain ⟨g_31, hM⟩ := gd_some hM
          refine w_iald cx hP 2 rfl g_31 dX2_edgesBetween_31 ?_
          refine lv_iload_n hx hb dX2_edgesBetween_32 rfl (lv_at hl 4 rfl) ?_
          refine lv_icmp_ne (tgt := 40) hx hb dX2_edgesBetween_33 (by decide) (fun c_33 => ?_) (fun c_33 => ?_)
          · have hM := if_f hM c_33
            refine lv_iconst (v := (nI 0)) hx hb dX2_edgesBetween_40 (by decide) ?_
            obtain rfl := Option.some.inj hM
            exact hJ_22 _ _ _ hP hD hS (lv_sub hl [0, 1, 2, 3, 4] rfl)
          · have hM := if_t hM c_33
            refine lv_iconst (v := (nI 1)) hx hb dX2_edgesBetween_36 (by decide) ?_
            refine lv_goto (tgt := 41) hx hb dX2_edgesBetween_37 (by decide) ?_
            obtain rfl := Option.some.inj hM
            exact hJ_22 _ _ _ hP hD hS (lv_sub hl [0, 1, 2, 3, 4] rfl)
  exact hL_5 n _ hn _ _ _ hP hD hS (lv_sub hl [0, 1, 2, 3, 4] rfl)
