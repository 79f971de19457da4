noncomputable def f_L_segB (Lx : Nat) (xs : Nat → Int32) (t : Int32) (S_o : QS) (n_ga : Nat) (a_ga : Nat → Int32) : Option (QS × (Nat → Int32)) :=
  bd (f_L_cell Lx xs (((nI 30) * t) + (nI 20))) (fun (q_95 : Int32) => bd (f_L_part q_95 (nI 5)) (fun (q_99 : Int32) => bd (f_L_builds Lx xs ((nI 30) * t) ((nI 2) + q_99) (nI 9) S_o n_ga a_ga) (fun (q_105 : Int32 × QS × (Nat → Int32)) => if q_105.1 = 0 then none else bd (f_L_refused q_105.2.1) (fun (q_112 : Int32 × QS) => if q_112.1 = 0 then none else some (q_112.2, q_105.2.2)))))
set_option maxHeartbeats 8000000 in
set_option maxRecDepth 100000 in
theorem segB {g : GG} {p : Program} {l : Launch} {e : Env} {s : State} {m : MethodId} {below : List Frame} {meth : Method} {c : Code} {h_b : Nat} {Q : State → Prop} {A : Nat → Prop} {cells slots : Nat} (cx : Cx g p s m #[Value.ref h_b] c cL_law RL 8) (hA : ∀ q : Nat, s.heap.size ≤ q → A q) (hcs : cells + 0 ≤ room_1.cells ∧ slots + 0 ≤ room_1.slots) (h_o : Nat) (h_ga : Nat) (al_h_o : Nat → Nat) (Lx : Nat) (xs : Nat → Int32) (t : Int32) (S_o : QS) (n_ga : Nat) (a_ga : Nat → Int32) (hXs : va_X h_b Lx xs s s.heap) (hbl : h_b < s.heap.size) (hbA : ¬ A h_b) {R : QS × (Nat → Int32)} (hM : f_L_segB Lx xs t S_o n_ga a_ga = some R) (hfin : ∀ (H : Heap) (locs : List Loc) (ls : Array Slot), va_P (gD g) vwCl (OB g h_o al_h_o R.1 ++ [aI g h_ga n_ga R.2]) H → va_D A (OB g h_o al_h_o R.1 ++ [aI g h_ga n_ga R.2]) → va_S A s.heap H locs → lv_has ls 8 [(3, .int t), (2, .ref h_o), (1, .ref h_ga), (0, .ref h_b)] → W p l e room_1 s m #[Value.ref h_b] below meth c H locs cells slots Q (F0 m 120 ls [])) : ∀ (H : Heap) (locs : List Loc) (ls : Array Slot), va_P (gD g) vwCl (OB g h_o al_h_o S_o ++ [aI g h_ga n_ga a_ga]) H → va_D A (OB g h_o al_h_o S_o ++ [aI g h_ga n_ga a_ga]) → va_S A s.heap H locs → lv_has ls 8 [(3, .int t), (2, .ref h_o), (1, .ref h_ga), (0, .ref h_b)] → W p l e room_1 s m #[Value.ref h_b] below meth c H locs cells slots Q (F0 m 79 ls []) := by
  obtain ⟨hx, hb, hml, hown, hts, hK⟩ := id cx
  intro H locs ls hP hD hS hl
  refine lv_aload_n hx hb dL_law_79 rfl (lv_at hl 1 rfl) ?_
  refine lv_aload_n hx hb dL_law_80 rfl (lv_at hl 2 rfl) ?_
  refine lv_aload_n hx hb dL_law_81 rfl (lv_at hl 3 rfl) ?_
  refine lv_bipush (v := (nI 30)) hx hb dL_law_82 (by decide) ?_
  refine lv_iload_n hx hb dL_law_84 rfl (lv_at hl 0 rfl) ?_
  refine lv_imul hx hb dL_law_85 ?_
  refine lv_iconst (v := (nI 2)) hx hb dL_law_86 (by decide) ?_
  refine lv_aload_n hx hb dL_law_87 rfl (lv_at hl 3 rfl) ?_
  refine lv_bipush (v := (nI 30)) hx hb dL_law_88 (by decide) ?_
  refine lv_iload_n hx hb dL_law_90 rfl (lv_at hl 0 rfl) ?_
  refine lv_imul hx hb dL_law_91 ?_
  refine lv_bipush (v := (nI 20)) hx hb dL_law_92 (by decide) ?_
  refine lv_iadd hx hb dL_law_94 ?_
  obtain ⟨q_95, hc_95, hM⟩ := bd_some hM
  refine w_callX cx hP hD hS hA hXs hbl hbA (c_L_cell g l h_b Lx xs (((nI 30) * t) + (nI 20)) hc_95) [] rfl (by decide) rfl (OB g h_o al_h_o S_o ++ [aI g h_ga n_ga a_ga]) rfl yq_L_cell m_332 m_333 m_16 m_334 ⟨Nat.le_of_ble_eq_true rfl, Nat.le_of_ble_eq_true rfl⟩ rfl rfl hl.1 (Nat.le_of_ble_eq_true rfl) dL_law_95 hcs rfl (fun H locs hP hD hS => ?_)
  refine lv_iconst (v := (nI 5)) hx hb dL_law_98 (by decide) ?_
  obtain ⟨q_99, hc_99, hM⟩ := bd_some hM
  refine w_callS cx hP hD hS hA (c_L_part g l q_95 (nI 5) hc_99) [] rfl (by decide) rfl (OB g h_o al_h_o S_o ++ [aI g h_ga n_ga a_ga]) rfl yq_L_part m_328 m_329 m_16 m_330 ⟨Nat.le_of_ble_eq_true rfl, Nat.le_of_ble_eq_true rfl⟩ rfl rfl hl.1 (Nat.le_of_ble_eq_true rfl) dL_law_99 hcs rfl (fun H locs hP hD hS => ?_)
  refine lv_iadd hx hb dL_law_102 ?_
  refine lv_bipush (v := (nI 9)) hx hb dL_law_103 (by decide) ?_
  obtain ⟨q_105, hc_105, hM⟩ := bd_some hM
  refine w_callX cx hP hD hS hA hXs hbl hbA (c_L_builds g l h_b h_o h_ga al_h_o Lx xs ((nI 30) * t) ((nI 2) + q_99) (nI 9) S_o n_ga a_ga hc_105) (blk 0 128) (al_C (obx_len rfl)) (nd_range _ _) (obx_f rfl) (OB g h_o al_h_o q_105.2.1 ++ [aI g h_ga n_ga q_105.2.2]) (al_S (obx_len rfl) (obx_len rfl)) yq_L_builds m_336 m_337 m_16 m_338 ⟨Nat.le_of_ble_eq_true rfl, Nat.le_of_ble_eq_true rfl⟩ rfl rfl hl.1 (Nat.le_of_ble_eq_true rfl) dL_law_105 hcs rfl (fun H locs hP hD hS => ?_)
  refine lv_if_eq (tgt := 118) hx hb dL_law_108 (by decide) (fun c_108 => ?_) (fun c_108 => ?_)
  · have hM := if_t hM c_108
    cases hM
  · have hM := if_f hM c_108
    refine lv_aload_n hx hb dL_law_111 rfl (lv_at hl 1 rfl) ?_
    obtain ⟨q_112, hc_112, hM⟩ := bd_some hM
    refine w_callS cx hP hD hS hA (c_L_refused g l h_o al_h_o q_105.2.1 hc_112) (blk 0 127) pf_C ob_nd (obx_f rfl) (OB g h_o al_h_o q_112.2 ++ [aI g h_ga n_ga q_105.2.2]) pf_S yq_L_refused m_416 m_417 m_16 m_418 ⟨Nat.le_of_ble_eq_true rfl, Nat.le_of_ble_eq_true rfl⟩ rfl rfl hl.1 (Nat.le_of_ble_eq_true rfl) dL_law_112 hcs rfl (fun H locs hP hD hS => ?_)
    refine lv_if_ne (tgt := 120) hx hb dL_law_115 (by decide) (fun c_115 => ?_) (fun c_115 => ?_)
    · have hM := if_f hM c_115
      obtain rfl := Option.some.inj hM
      exact hfin _ _ _ hP hD hS (lv_sub hl [0, 1, 2, 3] rfl)
    · have hM := if_t hM c_115
      cases hM
noncomputable def b_L_law_296 (n_w : Nat) (r_129 : QS × (Nat → Int64)) : Int32 × QS → Option ((Int32 × QS) ⊕ ((QS))) := fun z_296 =>
  if z_296.1 ≤ 0 then some (.inr z_296.2) else bd (o_undo z_296.2) (fun (q_302 : Int32 × QS) => if q_302.1 = (z_296.1 - (nI 1)) then bd (f_L_digest q_302.2) (fun (q_313 : Int64 × QS) => gd (inb z_296.1 n_w) (if (lg_cmp q_313.1 (r_129.2 z_296.1.toNatClampNeg)) = 0 then nm (z_296.1 + (nI 4294967295)) (fun (x_327 : Int32) => some (.inl (x_327, q_313.2))) else none)) else none)
noncomputable def b_L_law_129 (Lx : Nat) (xs : Nat → Int32) (t : Int32) (n_w : Nat) : Int32 × QS × (Nat → Int64) → Option ((Int32 × QS × (Nat → Int64)) ⊕ ((QS × (Nat → Int64)))) := fun z_129 =>
  if (nI 9) ≤ z_129.1 then some (.inr (z_129.2.1, z_129.2.2)) else bd (f_L_digest z_129.2.1) (fun (q_141 : Int64 × QS) => gd (inb z_129.1 n_w) (bd (f_L_cell Lx xs ((((nI 30) * t) + (nI 21)) + z_129.1)) (fun (q_156 : Int32) => bd (o_edgeCount q_141.2) (fun (q_162 : Int32 × QS) => if q_162.1 ≤ 0 then if q_162.1 ≤ 0 then if q_162.1 = (nI 9) then bd (f_L_part (q_156 >>> ((nI 2) &&& 31)) q_162.1) (fun (q_232 : Int32) => bd (o_flipSign q_232 q_162.2) (fun (q_235 : Int32 × QS) => if q_235.1 = 0 then none else some (.inl (z_129.1 + (nI 1), q_235.2, vp_updL z_129.2.2 z_129.1.toNatClampNeg q_141.1)))) else if z_129.1 = (nI 7) then bd (o_loadGraph q_162.2) (fun (q_251 : Int32 × QS) => if q_251.1 = 0 then some (.inl (z_129.1 + (nI 1), q_251.2, vp_updL z_129.2.2 z_129.1.toNatClampNeg q_141.1)) else none) else bd (f_L_part q_156 (nI 2)) (fun (q_265 : Int32) => bd (if q_265 = 0 then some (nI 1) else some (nI 4294967295)) (fun (j_268 : Int32) => bd (o_addEdge (nI 0) (nI 1) j_268 q_162.2) (fun (q_276 : Int32 × QS) => if q_276.1 = q_162.1 then some (.inl (z_129.1 + (nI 1), q_276.2, vp_updL z_129.2.2 z_129.1.toNatClampNeg q_141.1)) else none))) else bd (f_L_part q_156 (nI 3)) (fun (q_211 : Int32) => if q_211 = (nI 1) then bd (f_L_part (q_156 >>> ((nI 2) &&& 31)) q_162.1) (fun (q_232 : Int32) => bd (o_flipSign q_232 q_162.2) (fun (q_235 : Int32 × QS) => if q_235.1 = 0 then none else some (.inl (z_129.1 + (nI 1), q_235.2, vp_updL z_129.2.2 z_129.1.toNatClampNeg q_141.1)))) else if q_162.1 = (nI 9) then bd (f_L_part (q_156 >>> ((nI 2) &&& 31)) q_162.1) (fun (q_232 : Int32) => bd (o_flipSign q_232 q_162.2) (fun (q_235 : Int32 × QS) => if q_235.1 = 0 then none else some (.inl (z_129.1 + (nI 1), q_235.2, vp_updL z_129.2.2 z_129.1.toNatClampNeg q_141.1)))) else if z_129.1 = (nI 7) then bd (o_loadGraph q_162.2) (fun (q_251 : Int32 × QS) => if q_251.1 = 0 then some (.inl (z_129.1 + (nI 1), q_251.2, vp_updL z_129.2.2 z_129.1.toNatClampNeg q_141.1)) else none) else bd (f_L_part q_156 (nI 2)) (fun (q_265 : Int32) => bd (if q_265 = 0 then some (nI 1) else some (nI 4294967295)) (fun (j_268 : Int32) => bd (o_addEdge (nI 0) (nI 1) j_268 q_162.2) (fun (q_276 : Int32 × QS) => if q_276.1 = q_162.1 then some (.inl (z_129.1 + (nI 1), q_276.2, vp_updL z_129.2.2 z_129.1.toNatClampNeg q_141.1)) else none)))) else bd (f_L_part q_156 (nI 3)) (fun (q_175 : Int32) => if q_175 = 0 then bd (f_L_part (q_156 >>> ((nI 2) &&& 31)) q_162.1) (fun (q_188 : Int32) => bd (o_removeEdge q_188 q_162.2) (fun (q_191 : Int32 × QS) => if q_191.1 = (q_162.1 - (nI 1)) then some (.inl (z_129.1 + (nI 1), q_191.2, vp_updL z_129.2.2 z_129.1.toNatClampNeg q_141.1)) else none)) else if q_162.1 ≤ 0 then if q_162.1 = (nI 9) then bd (f_L_part (q_156 >>> ((nI 2) &&& 31)) q_162.1) (fun (q_232 : Int32) => bd (o_flipSign q_232 q_162.2) (fun (q_235 : Int32 × QS) => if q_235.1 = 0 then none else some (.inl (z_129.1 + (nI 1), q_235.2, vp_updL z_129.2.2 z_129.1.toNatClampNeg q_141.1)))) else if z_129.1 = (nI 7) then bd (o_loadGraph q_162.2) (fun (q_251 : Int32 × QS) => if q_251.1 = 0 then some (.inl (z_129.1 + (nI 1), q_251.2, vp_updL z_129.2.2 z_129.1.toNatClampNeg q_141.1)) else none) else bd (f_L_part q_156 (nI 2)) (fun (q_265 : Int32) => bd (if q_265 = 0 then some (nI 1) else some (nI 4294967295)) (fun (j_268 : Int32) => bd (o_addEdge (nI 0) (nI 1) j_268 q_162.2) (fun (q_276 : Int32 × QS) => if q_276.1 = q_162.1 then some (.inl (z_129.1 + (nI 1), q_276.2, vp_updL z_129.2.2 z_129.1.toNatClampNeg q_141.1)) else none))) else bd (f_L_part q_156 (nI 3)) (fun (q_211 : Int32) => if q_211 = (nI 1) then bd (f_L_part (q_156 >>> ((nI 2) &&& 31)) q_162.1) (fun (q_232 : Int32) => bd (o_flipSign q_232 q_162.2) (fun (q_235 : Int32 × QS) => if q_235.1 = 0 then none else some (.inl (z_129.1 + (nI 1), q_235.2, vp_updL z_129.2.2 z_129.1.toNatClampNeg q_141.1)))) else if q_162.1 = (nI 9) then bd (f_L_part (q_156 >>> ((nI 2) &&& 31)) q_162.1) (fun (q_232 : Int32) => bd (o_flipSign q_232 q_162.2) (fun (q_235 : Int32 × QS) => if q_235.1 = 0 then none else some (.inl (z_129.1 + (nI 1), q_235.2, vp_updL z_129.2.2 z_129.1.toNatClampNeg q_141.1)))) else if z_129.1 = (nI 7) then bd (o_loadGraph q_162.2) (fun (q_251 : Int32 × QS) => if q_251.1 = 0 then some (.inl (z_129.1 + (nI 1), q_251.2, vp_updL z_129.2.2 z_129.1.toNatClampNeg q_141.1)) else none) else bd (f_L_part q_156 (nI 2)) (fun (q_265 : Int32) => bd (if q_265 = 0 then some (nI 1) else some (nI 4294967295)) (fun (j_268 : Int32) => bd (o_addEdge (nI 0) (nI 1) j_268 q_162.2) (fun (q_276 : Int32 × QS) => if q_276.1 = q_162.1 then some (.inl (z_129.1 + (nI 1), q_276.2, vp_updL z_129.2.2 z_129.1.toNatClampNeg q_141.1)) else none)))))))))
noncomputable def f_L_segA (Lx : Nat) (xs : Nat → Int32) (t : Int32) (S_o : QS) (n_ga : Nat) (a_ga : Nat → Int32) (n_w : Nat) (a_w : Nat → Int64) : Option (QS × (Nat → Int64)) :=
  bd (wh (b_L_law_129 Lx xs t n_w) ((nI 0), S_o, a_w)) (fun (r_129 : QS × (Nat → Int64)) => bd (wh (b_L_law_296 n_w r_129) ((nI 8), r_129.1)) (fun (r_296 : QS) => bd (o_undo r_296) (fun (q_334 : Int32 × QS) => if q_334.1 = (nI 4294967294) then bd (f_L_digest q_334.2) (fun (q_343 : Int64 × QS) => gd (inb (nI 1) n_w) (if (lg_cmp q_343.1 (r_129.2 (nI 1).toNatClampNeg)) = 0 then some (q_343.2, r_129.2) else none)) else none)))
set_option maxHeartbeats 8000000 in
set_option maxRecDepth 100000 in
theorem segA {g : GG} {p : Program} {l : Launch} {e : Env} {s : State} {m : MethodId} {below : List Frame} {meth : Method} {c : Code} {h_b : Nat} {Q : State → Prop} {A : Nat → Prop} {cells slots : Nat} (cx : Cx g p s m #[Value.ref h_b] c cL_law RL 8) (hA : ∀ q : Nat, s.heap.size ≤ q → A q) (hcs : cells + 0 ≤ room_1.cells ∧ slots + 0 ≤ room_1.slots) (h_o : Nat) (h_ga : Nat) (h_w : Nat) (al_h_o : Nat → Nat) (Lx : Nat) (xs : Nat → Int32) (t : Int32) (S_o : QS) (n_ga : Nat) (a_ga : Nat → Int32) (n_w : Nat) (a_w : Nat → Int64) (hXs : va_X h_b Lx xs s s.heap) (hbl : h_b < s.heap.size) (hbA : ¬ A h_b) {R : QS × (Nat → Int64)} (hM : f_L_segA Lx xs t S_o n_ga a_ga n_w a_w = some R) (hfin : ∀ (H : Heap) (locs : List Loc) (ls : Array Slot), va_P (gD g) vwCl (OB g h_o al_h_o R.1 ++ [aI g h_ga n_ga a_ga, aJ g h_w n_w R.2]) H → va_D A (OB g h_o al_h_o R.1 ++ [aI g h_ga n_ga a_ga, aJ g h_w n_w R.2]) → va_S A s.heap H locs → lv_has ls 8 [(3, .int t), (2, .ref h_o), (1, .ref h_ga), (0, .ref h_b)] → W p l e room_1 s m #[Value.ref h_b] below meth c H locs cells slots Q (F0 m 356 ls [])) : ∀ (H : Heap) (locs : List Loc) (ls : Array Slot), va_P (gD g) vwCl (OB g h_o al_h_o S_o ++ [aI g h_ga n_ga a_ga, aJ g h_w n_w a_w]) H → va_D A (OB g h_o al_h_o S_o ++ [aI g h_ga n_ga a_ga, aJ g h_w n_w a_w]) → va_S A s.heap H locs → lv_has ls 8 [(4, .ref h_w), (3, .int t), (2, .ref h_o), (1, .ref h_ga), (0, .ref h_b)] → W p l e room_1 s m #[Value.ref h_b] below meth c H locs cells slots Q (F0 m 126 ls []) := by
  obtain ⟨hx, hb, hml, hown, hts, hK⟩ := id cx
  intro H locs ls hP hD hS hl
  refine lv_iconst (v := (nI 0)) hx hb dL_law_126 (by decide) ?_
  refine lv_istore (lv' := [(5, .int (nI 0)), (4, .ref h_w), (3, .int t), (2, .ref h_o), (1, .ref h_ga), (0, .ref h_b)]) hx hb dL_law_127 hl (by decide) rfl (fun ls hl => ?_)
  obtain ⟨r_129, hw, hM⟩ := bd_some hM
  obtain ⟨n, hn⟩ := wh_some hw
  clear hw
  have hE_129_0 : ∀ (H : Heap) (locs : List Loc) (ls : Array Slot), va_P (gD g) vwCl (OB g h_o al_h_o r_129.1 ++ [aI g h_ga n_ga a_ga, aJ g h_w n_w r_129.2]) H → va_D A (OB g h_o al_h_o r_129.1 ++ [aI g h_ga n_ga a_ga, aJ g h_w n_w r_129.2]) → va_S A s.heap H locs → lv_has ls 8 [(4, .ref h_w), (3, .int t), (2, .ref h_o), (1, .ref h_ga), (0, .ref h_b)] → W p l e room_1 s m #[Value.ref h_b] below meth c H locs cells slots Q (F0 m 292 ls []) := by
    intro H locs ls hP hD hS hl
    refine lv_bipush (v := (nI 8)) hx hb dL_law_292 (by decide) ?_
    refine lv_istore (lv' := [(5, .int (nI 8)), (4, .ref h_w), (3, .int t), (2, .ref h_o), (1, .ref h_ga), (0, .ref h_b)]) hx hb dL_law_294 hl (by decide) rfl (fun ls hl => ?_)
    obtain ⟨r_296, hw, hM⟩ := bd_some hM
    obtain ⟨n, hn⟩ := wh_some hw
    clear hw
    have hE_296_0 : ∀ (H : Heap) (locs : List Loc) (ls : Array Slot), va_P (gD g) vwCl (OB g h_o al_h_o r_296 ++ [aI g h_ga n_ga a_ga, aJ g h_w n_w r_129.2]) H → va_D A (OB g h_o al_h_o r_296 ++ [aI g h_ga n_ga a_ga, aJ g h_w n_w r_129.2]) → va_S A s.heap H locs → lv_has ls 8 [(4, .ref h_w), (3, .int t), (2, .ref h_o), (1, .ref h_ga), (0, .ref h_b)] → W p l e room_1 s m #[Value.ref h_b] below meth c H locs cells slots Q (F0 m 333 ls []) := by
      intro H locs ls hP hD hS hl
      refine lv_aload_n hx hb dL_law_333 rfl (lv_at hl 2 rfl) ?_
      obtain ⟨q_334, hc_334, hM⟩ := bd_some hM
      refine w_callV cx hP hD hS hA (co_undo g l h_o al_h_o r_296 hc_334) (blk 0 127) pf_C ob_nd (obx_f rfl) (OB g h_o al_h_o q_334.2 ++ [aI g h_ga n_ga a_ga, aJ g h_w n_w r_129.2]) pf_S 0 8 rfl rfl yq_X8_undo rfl m_312 m_313 m_314 m_17 m_315 ⟨Nat.le_of_ble_eq_true rfl, Nat.le_of_ble_eq_true rfl⟩ rfl rfl hl.1 (Nat.le_of_ble_eq_true rfl) dL_law_334 hcs rfl (fun H locs hP hD hS => ?_)
      refine lv_bipush (v := (nI 4294967294)) hx hb dL_law_337 (by decide) ?_
      refine lv_icmp_ne (tgt := 354) hx hb dL_law_339 (by decide) (fun c_339 => ?_) (fun c_339 => ?_)
      · have hM := if_f hM c_339
        cases hM
      · have hM := if_t hM c_339
        refine lv_aload_n hx hb dL_law_342 rfl (lv_at hl 2 rfl) ?_
        obtain ⟨q_343, hc_343, hM⟩ := bd_some hM
        refine w_callS cx hP hD hS hA (c_L_digest g l h_o al_h_o q_334.2 hc_343) (blk 0 127) pf_C ob_nd (obx_f rfl) (OB g h_o al_h_o q_343.2 ++ [aI g h_ga n_ga a_ga, aJ g h_w n_w r_129.2]) pf_S yq_L_digest m_343 m_344 m_16 m_345 ⟨Nat.le_of_ble_eq_true rfl, Nat.le_of_ble_eq_true rfl⟩ rfl rfl hl.1 (Nat.le_of_ble_eq_true rfl) dL_law_343 hcs rfl (fun H locs hP hD hS => ?_)
        refine lv_aload hx hb dL_law_346 (lv_at hl 0 rfl) ?_
        refine lv_iconst (v := (nI 1)) hx hb dL_law_348 (by decide) ?_
        obtain ⟨g_349, hM⟩ := gd_some hM
        refine w_lald cx hP (127 + 1) (ob_at rfl) g_349 dL_law_349 ?_
        refine W.lcmp hx hb dL_law_350 ?_
        refine lv_if_eq (tgt := 356) hx hb dL_law_351 (by decide) (fun c_351 => ?_) (fun c_351 => ?_)
        · have hM := if_t hM c_351
          obtain rfl := Option.some.inj hM
          exact hfin _ _ _ hP hD hS (lv_sub hl [1, 2, 3, 4] rfl)
        · have hM := if_f hM c_351
          cases hM
    clear hM
    have hL_296 : ∀ (n : Nat) (z_296 : Int32 × QS), it (b_L_law_296 n_w r_129) n z_296 = some r_296 → ∀ (H : Heap) (locs : List Loc) (ls : Array Slot), va_P (gD g) vwCl (OB g h_o al_h_o z_296.2 ++ [aI g h_ga n_ga a_ga, aJ g h_w n_w r_129.2]) H → va_D A (OB g h_o al_h_o z_296.2 ++ [aI g h_ga n_ga a_ga, aJ g h_w n_w r_129.2]) → va_S A s.heap H locs → lv_has ls 8 [(5, .int z_296.1), (4, .ref h_w), (3, .int t), (2, .ref h_o), (1, .ref h_ga), (0, .ref h_b)] → W p l e room_1 s m #[Value.ref h_b] below meth c H locs cells slots Q (F0 m 296 ls []) := by
      intro n
      induction n with
      | zero => intro z_296 hn; exact (it_zero hn).elim
      | succ n ih =>
        intro z_296 hn H locs ls hP hD hS hl
        obtain ⟨x, hM, hX⟩ := it_succ hn
        clear hn
        refine lv_iload hx hb dL_law_296 (lv_at hl 0 rfl) ?_
        refine lv_if_le (tgt := 333) hx hb dL_law_298 (by decide) (fun c_298 => ?_) (fun c_298 => ?_)
        · have hM := if_t hM c_298
          obtain rfl := Option.some.inj hM
          obtain rfl : _ = r_296 := hX
          exact hE_296_0 _ _ _ hP hD hS (lv_sub hl [1, 2, 3, 4, 5] rfl)
        · have hM := if_f hM c_298
          refine lv_aload_n hx hb dL_law_301 rfl (lv_at hl 3 rfl) ?_
          obtain ⟨q_302, hc_302, hM⟩ := bd_some hM
          refine w_callV cx hP hD hS hA (co_undo g l h_o al_h_o z_296.2 hc_302) (blk 0 127) pf_C ob_nd (obx_f rfl) (OB g h_o al_h_o q_302.2 ++ [aI g h_ga n_ga a_ga, aJ g h_w n_w r_129.2]) pf_S 0 8 rfl rfl yq_X8_undo rfl m_312 m_313 m_314 m_17 m_315 ⟨Nat.le_of_ble_eq_true rfl, Nat.le_of_ble_eq_true rfl⟩ rfl rfl hl.1 (Nat.le_of_ble_eq_true rfl) dL_law_302 hcs rfl (fun H locs hP hD hS => ?_)
          refine lv_iload hx hb dL_law_305 (lv_at hl 0 rfl) ?_
          refine lv_iconst (v := (nI 1)) hx hb dL_law_307 (by decide) ?_
          refine lv_isub hx hb dL_law_308 ?_
          refine lv_icmp_ne (tgt := 325) hx hb dL_law_309 (by decide) (fun c_309 => ?_) (fun c_309 => ?_)
          · have hM := if_f hM c_309
            cases hM
          · have hM := if_t hM c_309
            refine lv_aload_n hx hb dL_law_312 rfl (lv_at hl 3 rfl) ?_
            obtain ⟨q_313, hc_313, hM⟩ := bd_some hM
            refine w_callS cx hP hD hS hA (c_L_digest g l h_o al_h_o q_302.2 hc_313) (blk 0 127) pf_C ob_nd (obx_f rfl) (OB g h_o al_h_o q_313.2 ++ [aI g h_ga n_ga a_ga, aJ g h_w n_w r_129.2]) pf_S yq_L_digest m_343 m_344 m_16 m_345 ⟨Nat.le_of_ble_eq_true rfl, Nat.le_of_ble_eq_true rfl⟩ rfl rfl hl.1 (Nat.le_of_ble_eq_true rfl) dL_law_313 hcs rfl (fun H locs hP hD hS => ?_)
            refine lv_aload hx hb dL_law_316 (lv_at hl 1 rfl) ?_
            refine lv_iload hx hb dL_law_318 (lv_at hl 0 rfl) ?_
            obtain ⟨g_320, hM⟩ := gd_some hM
            refine w_lald cx hP (127 + 1) (ob_at rfl) g_320 dL_law_320 ?_
            refine W.lcmp hx hb dL_law_321 ?_
            refine lv_if_eq (tgt := 327) hx hb dL_law_322 (by decide) (fun c_322 => ?_) (fun c_322 => ?_)
            · have hM := if_t hM c_322
              obtain ⟨x_327, ex_327⟩ : ∃ q : Int32, q = z_296.1 + (nI 4294967295) := ⟨_, rfl⟩
              have hM := nm_some hM x_327 ex_327
              refine lv_iinc (v := x_327) (lv' := [(5, .int x_327), (4, .ref h_w), (3, .int t), (2, .ref h_o), (1, .ref h_ga), (0, .ref h_b)]) hx hb dL_law_327 hl (k := 0) rfl ((congrArg (fun q => z_296.1 + q) (show Int32.ofInt (-1) = (nI 4294967295) by decide)).trans ex_327.symm) (by decide) rfl (fun ls hl => ?_)
              refine lv_goto (tgt := 296) hx hb dL_law_330 (by decide) ?_
              obtain rfl := Option.some.inj hM
              exact ih _ hX _ _ _ hP hD hS (lv_sub hl [0, 1, 2, 3, 4, 5] rfl)
            · have hM := if_f hM c_322
              cases hM
    exact hL_296 n _ hn _ _ _ hP hD hS (lv_sub hl [0, 1, 2, 3, 4, 5] rfl)
  clear hM
  have hL_129 : ∀ (n : Nat) (z_129 : Int32 × QS × (Nat → Int64)), it (b_L_law_129 Lx xs t n_w) n z_129 = some r_129 → ∀ (H : Heap) (locs : List Loc) (ls : Array Slot), va_P (gD g) vwCl (OB g h_o al_h_o z_129.2.1 ++ [aI g h_ga n_ga a_ga, aJ g h_w n_w z_129.2.2]) H → va_D A (OB g h_o al_h_o z_129.2.1 ++ [aI g h_ga n_ga a_ga, aJ g h_w n_w z_129.2.2]) → va_S A s.heap H locs → lv_has ls 8 [(5, .int z_129.1), (4, .ref h_w), (3, .int t), (2, .ref h_o), (1, .ref h_ga), (0, .ref h_b)] → W p l e room_1 s m #[Value.ref h_b] below meth c H locs cells slots Q (F0 m 129 ls []) := by
    intro n
    induction n with
    | zero => intro z_129 hn; exact (it_zero hn).elim
    | succ n ih =>
      intro z_129 hn H locs ls hP hD hS hl
      obtain ⟨x, hM, hX⟩ := it_succ hn
      clear hn
      refine lv_iload hx hb dL_law_129 (lv_at hl 0 rfl) ?_
      refine lv_bipush (v := (nI 9)) hx hb dL_law_131 (by decide) ?_
      refine lv_icmp_ge (tgt := 292) hx hb dL_law_133 (by decide) (fun c_133 => ?_) (fun c_133 => ?_)
      · have hM := if_t hM c_133
        obtain rfl := Option.some.inj hM
        obtain rfl : _ = r_129 := hX
        exact hE_129_0 _ _ _ hP hD hS (lv_sub hl [1, 2, 3, 4, 5] rfl)
      · have hM := if_f hM c_133
        refine lv_aload hx hb dL_law_136 (lv_at hl 1 rfl) ?_
        refine lv_iload hx hb dL_law_138 (lv_at hl 0 rfl) ?_
        refine lv_aload_n hx hb dL_law_140 rfl (lv_at hl 3 rfl) ?_
        obtain ⟨q_141, hc_141, hM⟩ := bd_some hM
        refine w_callS cx hP hD hS hA (c_L_digest g l h_o al_h_o z_129.2.1 hc_141) (blk 0 127) pf_C ob_nd (obx_f rfl) (OB g h_o al_h_o q_141.2 ++ [aI g h_ga n_ga a_ga, aJ g h_w n_w z_129.2.2]) pf_S yq_L_digest m_343 m_344 m_16 m_345 ⟨Nat.le_of_ble_eq_true rfl, Nat.le_of_ble_eq_true rfl⟩ rfl rfl hl.1 (Nat.le_of_ble_eq_true rfl) dL_law_141 hcs rfl (fun H locs hP hD hS => ?_)
        obtain ⟨g_144, hM⟩ := gd_some hM
        refine w_last cx hP hD hS (127 + 1) (ob_at rfl) g_144 dL_law_144 (OB g h_o al_h_o q_141.2 ++ [aI g h_ga n_ga a_ga, aJ g h_w n_w (vp_updL z_129.2.2 z_129.1.toNatClampNeg q_141.1)]) ob_set (fun H locs hP hD hS => ?_)
        refine lv_aload_n hx hb dL_law_145 rfl (lv_at hl 5 rfl) ?_
        refine lv_bipush (v := (nI 30)) hx hb dL_law_146 (by decide) ?_
        refine lv_iload_n hx hb dL_law_148 rfl (lv_at hl 2 rfl) ?_
        refine lv_imul hx hb dL_law_149 ?_
        refine lv_bipush (v := (nI 21)) hx hb dL_law_150 (by decide) ?_
        refine lv_iadd hx hb dL_law_152 ?_
        refine lv_iload hx hb dL_law_153 (lv_at hl 0 rfl) ?_
        refine lv_iadd hx hb dL_law_155 ?_
        obtain ⟨q_156, hc_156, hM⟩ := bd_some hM
        refine w_callX cx hP hD hS hA hXs hbl hbA (c_L_cell g l h_b Lx xs ((((nI 30) * t) + (nI 21)) + z_129.1) hc_156) [] rfl (by decide) rfl (OB g h_o al_h_o q_141.2 ++ [aI g h_ga n_ga a_ga, aJ g h_w n_w (vp_updL z_129.2.2 z_129.1.toNatClampNeg q_141.1)]) rfl yq_L_cell m_332 m_333 m_16 m_334 ⟨Nat.le_of_ble_eq_true rfl, Nat.le_of_ble_eq_true rfl⟩ rfl rfl hl.1 (Nat.le_of_ble_eq_true rfl) dL_law_156 hcs rfl (fun H locs hP hD hS => ?_)
        refine lv_istore (lv' := [(6, .int q_156), (5, .int z_129.1), (4, .ref h_w), (3, .int t), (2, .ref h_o), (1, .ref h_ga), (0, .ref h_b)]) hx hb dL_law_159 hl (by decide) rfl (fun ls hl => ?_)
        refine lv_aload_n hx hb dL_law_161 rfl (lv_at hl 4 rfl) ?_
        obtain ⟨q_162, hc_162, hM⟩ := bd_some hM
        refine w_callV cx hP hD hS hA (co_edgeCount g l h_o al_h_o q_141.2 hc_162) (blk 0 127) pf_C ob_nd (obx_f rfl) (OB g h_o al_h_o q_162.2 ++ [aI g h_ga n_ga a_ga, aJ g h_w n_w (vp_updL z_129.2.2 z_129.1.toNatClampNeg q_141.1)]) pf_S 0 8 rfl rfl yq_X8_edgeCount rfl m_324 m_325 m_326 m_17 m_327 ⟨Nat.le_of_ble_eq_true rfl, Nat.le_of_ble_eq_true rfl⟩ rfl rfl hl.1 (Nat.le_of_ble_eq_true rfl) dL_law_162 hcs rfl (fun H locs hP hD hS => ?_)
        refine lv_istore (lv' := [(7, .int q_162.1), (6, .int q_156), (5, .int z_129.1), (4, .ref h_w), (3, .int t), (2, .ref h_o), (1, .ref h_ga), (0, .ref h_b)]) hx hb dL_law_165 hl (by decide) rfl (fun ls hl => ?_)
        refine lv_iload hx hb dL_law_167 (lv_at hl 0 rfl) ?_
        refine lv_if_le (tgt := 203) hx hb dL_law_169 (by decide) (fun c_169 => ?_) (fun c_169 => ?_)
        · have hM := if_t hM c_169
          refine lv_iload hx hb dL_law_203 (lv_at hl 0 rfl) ?_
          refine lv_if_le (tgt := 218) hx hb dL_law_205 (by decide) (fun c_205 => ?_) (fun c_205 => ?_)
          · have hM := if_t hM c_205
            refine lv_iload hx hb dL_law_218 (lv_at hl 0 rfl) ?_
            refine lv_bipush (v := (nI 9)) hx hb dL_law_220 (by decide) ?_
            refine lv_icmp_ne (tgt := 243) hx hb dL_law_222 (by decide) (fun c_222 => ?_) (fun c_222 => ?_)
            · have hM := if_f hM c_222
              refine lv_iload hx hb dL_law_243 (lv_at hl 2 rfl) ?_
              refine lv_bipush (v := (nI 7)) hx hb dL_law_245 (by decide) ?_
              refine lv_icmp_ne (tgt := 259) hx hb dL_law_247 (by decide) (fun c_247 => ?_) (fun c_247 => ?_)
              · have hM := if_f hM c_247
                refine lv_aload_n hx hb dL_law_259 rfl (lv_at hl 5 rfl) ?_
                refine lv_iconst (v := (nI 0)) hx hb dL_law_260 (by decide) ?_
                refine lv_iconst (v := (nI 1)) hx hb dL_law_261 (by decide) ?_
                refine lv_iload hx hb dL_law_262 (lv_at hl 1 rfl) ?_
                refine lv_iconst (v := (nI 2)) hx hb dL_law_264 (by decide) ?_
                obtain ⟨q_265, hc_265, hM⟩ := bd_some hM
                refine w_callS cx hP hD hS hA (c_L_part g l q_156 (nI 2) hc_265) [] rfl (by decide) rfl (OB g h_o al_h_o q_162.2 ++ [aI g h_ga n_ga a_ga, aJ g h_w n_w (vp_updL z_129.2.2 z_129.1.toNatClampNeg q_141.1)]) rfl yq_L_part m_328 m_329 m_16 m_330 ⟨Nat.le_of_ble_eq_true rfl, Nat.le_of_ble_eq_true rfl⟩ rfl rfl hl.1 (Nat.le_of_ble_eq_true rfl) dL_law_265 hcs rfl (fun H locs hP hD hS => ?_)
                obtain ⟨j_268, hB, hM⟩ := bd_some hM
                have hJ_268 : ∀ (H : Heap) (locs : List Loc) (ls : Array Slot), va_P (gD g) vwCl (OB g h_o al_h_o q_162.2 ++ [aI g h_ga n_ga a_ga, aJ g h_w n_w (vp_updL z_129.2.2 z_129.1.toNatClampNeg q_141.1)]) H → va_D A (OB g h_o al_h_o q_162.2 ++ [aI g h_ga n_ga a_ga, aJ g h_w n_w (vp_updL z_129.2.2 z_129.1.toNatClampNeg q_141.1)]) → va_S A s.heap H locs → lv_has ls 8 [(7, .int q_162.1), (5, .int z_129.1), (4, .ref h_w), (3, .int t), (2, .ref h_o), (1, .ref h_ga), (0, .ref h_b)] → W p l e room_1 s m #[Value.ref h_b] below meth c H locs cells slots Q (F0 m 276 ls [.int j_268, .int (nI 1), .int (nI 0), .ref h_o]) := by
                  intro H locs ls hP hD hS hl
                  obtain ⟨q_276, hc_276, hM⟩ := bd_some hM
                  refine w_callV cx hP hD hS hA (co_addEdge g l h_o al_h_o (nI 0) (nI 1) j_268 q_162.2 hc_276) (blk 0 127) pf_C ob_nd (obx_f rfl) (OB g h_o al_h_o q_276.2 ++ [aI g h_ga n_ga a_ga, aJ g h_w n_w (vp_updL z_129.2.2 z_129.1.toNatClampNeg q_141.1)]) pf_S 0 8 rfl rfl yq_X8_addEdge rfl m_231 m_232 m_233 m_17 m_234 ⟨Nat.le_of_ble_eq_true rfl, Nat.le_of_ble_eq_true rfl⟩ rfl rfl hl.1 (Nat.le_of_ble_eq_true rfl) dL_law_276 hcs rfl (fun H locs hP hD hS => ?_)
                  refine lv_iload hx hb dL_law_279 (lv_at hl 0 rfl) ?_
                  refine lv_icmp_eq (tgt := 286) hx hb dL_law_281 (by decide) (fun c_281 => ?_) (fun c_281 => ?_)
                  · have hM := if_t hM c_281
                    refine lv_iinc (v := z_129.1 + (nI 1)) (lv' := [(5, .int (z_129.1 + (nI 1))), (7, .int q_162.1), (4, .ref h_w), (3, .int t), (2, .ref h_o), (1, .ref h_ga), (0, .ref h_b)]) hx hb dL_law_286 hl (k := 1) rfl (congrArg (fun q => z_129.1 + q) (show Int32.ofInt (1) = (nI 1) by decide)) (by decide) rfl (fun ls hl => ?_)
                    refine lv_goto (tgt := 129) hx hb dL_law_289 (by decide) ?_
                    obtain rfl := Option.some.inj hM
                    exact ih _ hX _ _ _ hP hD hS (lv_sub hl [0, 2, 3, 4, 5, 6] rfl)
                  · have hM := if_f hM c_281
                    cases hM
                clear hM
                have hM := hB
                clear hB
                refine lv_if_ne (tgt := 275) hx hb dL_law_268 (by decide) (fun c_268 => ?_) (fun c_268 => ?_)
                · have hM := if_f hM c_268
                  refine lv_iconst (v := (nI 4294967295)) hx hb dL_law_275 (by decide) ?_
                  obtain rfl := Option.some.inj hM
                  exact hJ_268 _ _ _ hP hD hS (lv_sub hl [0, 2, 3, 4, 5, 6, 7] rfl)
                · have hM := if_t hM c_268
                  refine lv_iconst (v := (nI 1)) hx hb dL_law_271 (by decide) ?_
                  refine lv_goto (tgt := 276) hx hb dL_law_272 (by decide) ?_
                  obtain rfl := Option.some.inj hM
                  exact hJ_268 _ _ _ hP hD hS (lv_sub hl [0, 2, 3, 4, 5, 6, 7] rfl)
              · have hM := if_t hM c_247
                refine lv_aload_n hx hb dL_law_250 rfl (lv_at hl 5 rfl) ?_
                obtain ⟨q_251, hc_251, hM⟩ := bd_some hM
                refine w_callV cx hP hD hS hA (co_loadGraph g l h_o al_h_o q_162.2 hc_251) (blk 0 127) pf_C ob_nd (obx_f rfl) (OB g h_o al_h_o q_251.2 ++ [aI g h_ga n_ga a_ga, aJ g h_w n_w (vp_updL z_129.2.2 z_129.1.toNatClampNeg q_141.1)]) pf_S 0 8 rfl rfl yq_X8_loadGraph rfl m_276 m_277 m_278 m_17 m_279 ⟨Nat.le_of_ble_eq_true rfl, Nat.le_of_ble_eq_true rfl⟩ rfl rfl hl.1 (Nat.le_of_ble_eq_true rfl) dL_law_251 hcs rfl (fun H locs hP hD hS => ?_)
                refine lv_if_eq (tgt := 286) hx hb dL_law_254 (by decide) (fun c_254 => ?_) (fun c_254 => ?_)
                · have hM := if_t hM c_254
                  refine lv_iinc (v := z_129.1 + (nI 1)) (lv' := [(5, .int (z_129.1 + (nI 1))), (7, .int q_162.1), (6, .int q_156), (4, .ref h_w), (3, .int t), (2, .ref h_o), (1, .ref h_ga), (0, .ref h_b)]) hx hb dL_law_286 hl (k := 2) rfl (congrArg (fun q => z_129.1 + q) (show Int32.ofInt (1) = (nI 1) by decide)) (by decide) rfl (fun ls hl => ?_)
                  refine lv_goto (tgt := 129) hx hb dL_law_289 (by decide) ?_
                  obtain rfl := Option.some.inj hM
                  exact ih _ hX _ _ _ hP hD hS (lv_sub hl [0, 3, 4, 5, 6, 7] rfl)
                · have hM := if_f hM c_254
                  cases hM
            · have hM := if_t hM c_222
              refine lv_aload_n hx hb dL_law_225 rfl (lv_at hl 5 rfl) ?_
              refine lv_iload hx hb dL_law_226 (lv_at hl 1 rfl) ?_
              refine lv_iconst (v := (nI 2)) hx hb dL_law_228 (by decide) ?_
              refine lv_ishr hx hb dL_law_229 ?_
              refine lv_iload hx hb dL_law_230 (lv_at hl 0 rfl) ?_
              obtain ⟨q_232, hc_232, hM⟩ := bd_some hM
              refine w_callS cx hP hD hS hA (c_L_part g l (q_156 >>> ((nI 2) &&& 31)) q_162.1 hc_232) [] rfl (by decide) rfl (OB g h_o al_h_o q_162.2 ++ [aI g h_ga n_ga a_ga, aJ g h_w n_w (vp_updL z_129.2.2 z_129.1.toNatClampNeg q_141.1)]) rfl yq_L_part m_328 m_329 m_16 m_330 ⟨Nat.le_of_ble_eq_true rfl, Nat.le_of_ble_eq_true rfl⟩ rfl rfl hl.1 (Nat.le_of_ble_eq_true rfl) dL_law_232 hcs rfl (fun H locs hP hD hS => ?_)
              obtain ⟨q_235, hc_235, hM⟩ := bd_some hM
              refine w_callV cx hP hD hS hA (co_flipSign g l h_o al_h_o q_232 q_162.2 hc_235) (blk 0 127) pf_C ob_nd (obx_f rfl) (OB g h_o al_h_o q_235.2 ++ [aI g h_ga n_ga a_ga, aJ g h_w n_w (vp_updL z_129.2.2 z_129.1.toNatClampNeg q_141.1)]) pf_S 0 8 rfl rfl yq_X8_flipSign rfl m_272 m_273 m_274 m_17 m_275 ⟨Nat.le_of_ble_eq_true rfl, Nat.le_of_ble_eq_true rfl⟩ rfl rfl hl.1 (Nat.le_of_ble_eq_true rfl) dL_law_235 hcs rfl (fun H locs hP hD hS => ?_)
              refine lv_if_ne (tgt := 286) hx hb dL_law_238 (by decide) (fun c_238 => ?_) (fun c_238 => ?_)
              · have hM := if_f hM c_238
                refine lv_iinc (v := z_129.1 + (nI 1)) (lv' := [(5, .int (z_129.1 + (nI 1))), (7, .int q_162.1), (6, .int q_156), (4, .ref h_w), (3, .int t), (2, .ref h_o), (1, .ref h_ga), (0, .ref h_b)]) hx hb dL_law_286 hl (k := 2) rfl (congrArg (fun q => z_129.1 + q) (show Int32.ofInt (1) = (nI 1) by decide)) (by decide) rfl (fun ls hl => ?_)
                refine lv_goto (tgt := 129) hx hb dL_law_289 (by decide) ?_
                obtain rfl := Option.some.inj hM
                exact ih _ hX _ _ _ hP hD hS (lv_sub hl [0, 3, 4, 5, 6, 7] rfl)
              · have hM := if_t hM c_238
                cases hM
          · have hM := if_f hM c_205
            refine lv_iload hx hb dL_law_208 (lv_at hl 1 rfl) ?_
            refine lv_iconst (v := (nI 3)) hx hb dL_law_210 (by decide) ?_
            obtain ⟨q_211, hc_211, hM⟩ := bd_some hM
            refine w_callS cx hP hD hS hA (c_L_part g l q_156 (nI 3) hc_211) [] rfl (by decide) rfl (OB g h_o al_h_o q_162.2 ++ [aI g h_ga n_ga a_ga, aJ g h_w n_w (vp_updL z_129.2.2 z_129.1.toNatClampNeg q_141.1)]) rfl yq_L_part m_328 m_329 m_16 m_330 ⟨Nat.le_of_ble_eq_true rfl, Nat.le_of_ble_eq_true rfl⟩ rfl rfl hl.1 (Nat.le_of_ble_eq_true rfl) dL_law_211 hcs rfl (fun H locs hP hD hS => ?_)
            refine lv_iconst (v := (nI 1)) hx hb dL_law_214 (by decide) ?_
            refine lv_icmp_eq (tgt := 225) hx hb dL_law_215 (by decide) (fun c_215 => ?_) (fun c_215 => ?_)
            · have hM := if_t hM c_215
              refine lv_aload_n hx hb dL_law_225 rfl (lv_at hl 5 rfl) ?_
              refine lv_iload hx hb dL_law_226 (lv_at hl 1 rfl) ?_
              refine lv_iconst (v := (nI 2)) hx hb dL_law_228 (by decide) ?_
              refine lv_ishr hx hb dL_law_229 ?_
              refine lv_iload hx hb dL_law_230 (lv_at hl 0 rfl) ?_
              obtain ⟨q_232, hc_232, hM⟩ := bd_some hM
              refine w_callS cx hP hD hS hA (c_L_part g l (q_156 >>> ((nI 2) &&& 31)) q_162.1 hc_232) [] rfl (by decide) rfl (OB g h_o al_h_o q_162.2 ++ [aI g h_ga n_ga a_ga, aJ g h_w n_w (vp_updL z_129.2.2 z_129.1.toNatClampNeg q_141.1)]) rfl yq_L_part m_328 m_329 m_16 m_330 ⟨Nat.le_of_ble_eq_true rfl, Nat.le_of_ble_eq_true rfl⟩ rfl rfl hl.1 (Nat.le_of_ble_eq_true rfl) dL_law_232 hcs rfl (fun H locs hP hD hS => ?_)
              obtain ⟨q_235, hc_235, hM⟩ := bd_some hM
              refine w_callV cx hP hD hS hA (co_flipSign g l h_o al_h_o q_232 q_162.2 hc_235) (blk 0 127) pf_C ob_nd (obx_f rfl) (OB g h_o al_h_o q_235.2 ++ [aI g h_ga n_ga a_ga, aJ g h_w n_w (vp_updL z_129.2.2 z_129.1.toNatClampNeg q_141.1)]) pf_S 0 8 rfl rfl yq_X8_flipSign rfl m_272 m_273 m_274 m_17 m_275 ⟨Nat.le_of_ble_eq_true rfl, Nat.le_of_ble_eq_true rfl⟩ rfl rfl hl.1 (Nat.le_of_ble_eq_true rfl) dL_law_235 hcs rfl (fun H locs hP hD hS => ?_)
              refine lv_if_ne (tgt := 286) hx hb dL_law_238 (by decide) (fun c_238 => ?_) (fun c_238 => ?_)
              · have hM := if_f hM c_238
                refine lv_iinc (v := z_129.1 + (nI 1)) (lv' := [(5, .int (z_129.1 + (nI 1))), (7, .int q_162.1), (6, .int q_156), (4, .ref h_w), (3, .int t), (2, .ref h_o), (1, .ref h_ga), (0, .ref h_b)]) hx hb dL_law_286 hl (k := 2) rfl (congrArg (fun q => z_129.1 + q) (show Int32.ofInt (1) = (nI 1) by decide)) (by decide) rfl (fun ls hl => ?_)
                refine lv_goto (tgt := 129) hx hb dL_law_289 (by decide) ?_
                obtain rfl := Option.some.inj hM
                exact ih _ hX _ _ _ hP hD hS (lv_sub hl [0, 3, 4, 5, 6, 7] rfl)
              · have hM := if_t hM c_238
                cases hM
            · have hM := if_f hM c_215
              refine lv_iload hx hb dL_law_218 (lv_at hl 0 rfl) ?_
              refine lv_bipush (v := (nI 9)) hx hb dL_law_220 (by decide) ?_
              refine lv_icmp_ne (tgt := 243) hx hb dL_law_222 (by decide) (fun c_222 => ?_) (fun c_222 => ?_)
              · have hM := if_f hM c_222
                refine lv_iload hx hb dL_law_243 (lv_at hl 2 rfl) ?_
                refine lv_bipush (v := (nI 7)) hx hb dL_law_245 (by decide) ?_
                refine lv_icmp_ne (tgt := 259) hx hb dL_law_247 (by decide) (fun c_247 => ?_) (fun c_247 => ?_)
                · have hM := if_f hM c_247
                  refine lv_aload_n hx hb dL_law_259 rfl (lv_at hl 5 rfl) ?_
                  refine lv_iconst (v := (nI 0)) hx hb dL_law_260 (by decide) ?_
                  refine lv_iconst (v := (nI 1)) hx hb dL_law_261 (by decide) ?_
                  refine lv_iload hx hb dL_law_262 (lv_at hl 1 rfl) ?_
                  refine lv_iconst (v := (nI 2)) hx hb dL_law_264 (by decide) ?_
                  obtain ⟨q_265, hc_265, hM⟩ := bd_some hM
                  refine w_callS cx hP hD hS hA (c_L_part g l q_156 (nI 2) hc_265) [] rfl (by decide) rfl (OB g h_o al_h_o q_162.2 ++ [aI g h_ga n_ga a_ga, aJ g h_w n_w (vp_updL z_129.2.2 z_129.1.toNatClampNeg q_141.1)]) rfl yq_L_part m_328 m_329 m_16 m_330 ⟨Nat.le_of_ble_eq_true rfl, Nat.le_of_ble_eq_true rfl⟩ rfl rfl hl.1 (Nat.le_of_ble_eq_true rfl) dL_law_265 hcs rfl (fun H locs hP hD hS => ?_)
                  obtain ⟨j_268, hB, hM⟩ := bd_some hM
                  have hJ_268 : ∀ (H : Heap) (locs : List Loc) (ls : Array Slot), va_P (gD g) vwCl (OB g h_o al_h_o q_162.2 ++ [aI g h_ga n_ga a_ga, aJ g h_w n_w (vp_updL z_129.2.2 z_129.1.toNatClampNeg q_141.1)]) H → va_D A (OB g h_o al_h_o q_162.2 ++ [aI g h_ga n_ga a_ga, aJ g h_w n_w (vp_updL z_129.2.2 z_129.1.toNatClampNeg q_141.1)]) → va_S A s.heap H locs → lv_has ls 8 [(7, .int q_162.1), (5, .int z_129.1), (4, .ref h_w), (3, .int t), (2, .ref h_o), (1, .ref h_ga), (0, .ref h_b)] → W p l e room_1 s m #[Value.ref h_b] below meth c H locs cells slots Q (F0 m 276 ls [.int j_268, .int (nI 1), .int (nI 0), .ref h_o]) := by
                    intro H locs ls hP hD hS hl
                    obtain ⟨q_276, hc_276, hM⟩ := bd_some hM
                    refine w_callV cx hP hD hS hA (co_addEdge g l h_o al_h_o (nI 0) (nI 1) j_268 q_162.2 hc_276) (blk 0 127) pf_C ob_nd (obx_f rfl) (OB g h_o al_h_o q_276.2 ++ [aI g h_ga n_ga a_ga, aJ g h_w n_w (vp_updL z_129.2.2 z_129.1.toNatClampNeg q_141.1)]) pf_S 0 8 rfl rfl yq_X8_addEdge rfl m_231 m_232 m_233 m_17 m_234 ⟨Nat.le_of_ble_eq_true rfl, Nat.le_of_ble_eq_true rfl⟩ rfl rfl hl.1 (Nat.le_of_ble_eq_true rfl) dL_law_276 hcs rfl (fun H locs hP hD hS => ?_)
                    refine lv_iload hx hb dL_law_279 (lv_at hl 0 rfl) ?_
                    refine lv_icmp_eq (tgt := 286) hx hb dL_law_281 (by decide) (fun c_281 => ?_) (fun c_281 => ?_)
                    · have hM := if_t hM c_281
                      refine lv_iinc (v := z_129.1 + (nI 1)) (lv' := [(5, .int (z_129.1 + (nI 1))), (7, .int q_162.1), (4, .ref h_w), (3, .int t), (2, .ref h_o), (1, .ref h_ga), (0, .ref h_b)]) hx hb dL_law_286 hl (k := 1) rfl (congrArg (fun q => z_129.1 + q) (show Int32.ofInt (1) = (nI 1) by decide)) (by decide) rfl (fun ls hl => ?_)
                      refine lv_goto (tgt := 129) hx hb dL_law_289 (by decide) ?_
                      obtain rfl := Option.some.inj hM
                      exact ih _ hX _ _ _ hP hD hS (lv_sub hl [0, 2, 3, 4, 5, 6] rfl)
                    · have hM := if_f hM c_281
                      cases hM
                  clear hM
                  have hM := hB
                  clear hB
                  refine lv_if_ne (tgt := 275) hx hb dL_law_268 (by decide) (fun c_268 => ?_) (fun c_268 => ?_)
                  · have hM := if_f hM c_268
                    refine lv_iconst (v := (nI 4294967295)) hx hb dL_law_275 (by decide) ?_
                    obtain rfl := Option.some.inj hM
                    exact hJ_268 _ _ _ hP hD hS (lv_sub hl [0, 2, 3, 4, 5, 6, 7] rfl)
                  · have hM := if_t hM c_268
                    refine lv_iconst (v := (nI 1)) hx hb dL_law_271 (by decide) ?_
                    refine lv_goto (tgt := 276) hx hb dL_law_272 (by decide) ?_
                    obtain rfl := Option.some.inj hM
                    exact hJ_268 _ _ _ hP hD hS (lv_sub hl [0, 2, 3, 4, 5, 6, 7] rfl)
                · have hM := if_t hM c_247
                  refine lv_aload_n hx hb dL_law_250 rfl (lv_at hl 5 rfl) ?_
                  obtain ⟨q_251, hc_251, hM⟩ := bd_some hM
                  refine w_callV cx hP hD hS hA (co_loadGraph g l h_o al_h_o q_162.2 hc_251) (blk 0 127) pf_C ob_nd (obx_f rfl) (OB g h_o al_h_o q_251.2 ++ [aI g h_ga n_ga a_ga, aJ g h_w n_w (vp_updL z_129.2.2 z_129.1.toNatClampNeg q_141.1)]) pf_S 0 8 rfl rfl yq_X8_loadGraph rfl m_276 m_277 m_278 m_17 m_279 ⟨Nat.le_of_ble_eq_true rfl, Nat.le_of_ble_eq_true rfl⟩ rfl rfl hl.1 (Nat.le_of_ble_eq_true rfl) dL_law_251 hcs rfl (fun H locs hP hD hS => ?_)
                  refine lv_if_eq (tgt := 286) hx hb dL_law_254 (by decide) (fun c_254 => ?_) (fun c_254 => ?_)
                  · have hM := if_t hM c_254
                    refine lv_iinc (v := z_129.1 + (nI 1)) (lv' := [(5, .int (z_129.1 + (nI 1))), (7, .int q_162.1), (6, .int q_156), (4, .ref h_w), (3, .int t), (2, .ref h_o), (1, .ref h_ga), (0, .ref h_b)]) hx hb dL_law_286 hl (k := 2) rfl (congrArg (fun q => z_129.1 + q) (show Int32.ofInt (1) = (nI 1) by decide)) (by decide) rfl (fun ls hl => ?_)
                    refine lv_goto (tgt := 129) hx hb dL_law_289 (by decide) ?_
                    obtain rfl := Option.some.inj hM
                    exact ih _ hX _ _ _ hP hD hS (lv_sub hl [0, 3, 4, 5, 6, 7] rfl)
                  · have hM := if_f hM c_254
                    cases hM
              · have hM := if_t hM c_222
                refine lv_aload_n hx hb dL_law_225 rfl (lv_at hl 5 rfl) ?_
                refine lv_iload hx hb dL_law_226 (lv_at hl 1 rfl) ?_
                refine lv_iconst (v := (nI 2)) hx hb dL_law_228 (by decide) ?_
                refine lv_ishr hx hb dL_law_229 ?_
                refine lv_iload hx hb dL_law_230 (lv_at hl 0 rfl) ?_
                obtain ⟨q_232, hc_232, hM⟩ := bd_some hM
                refine w_callS cx hP hD hS hA (c_L_part g l (q_156 >>> ((nI 2) &&& 31)) q_162.1 hc_232) [] rfl (by decide) rfl (OB g h_o al_h_o q_162.2 ++ [aI g h_ga n_ga a_ga, aJ g h_w n_w (vp_updL z_129.2.2 z_129.1.toNatClampNeg q_141.1)]) rfl yq_L_part m_328 m_329 m_16 m_330 ⟨Nat.le_of_ble_eq_true rfl, Nat.le_of_ble_eq_true rfl⟩ rfl rfl hl.1 (Nat.le_of_ble_eq_true rfl) dL_law_232 hcs rfl (fun H locs hP hD hS => ?_)
                obtain ⟨q_235, hc_235, hM⟩ := bd_some hM
                refine w_callV cx hP hD hS hA (co_flipSign g l h_o al_h_o q_232 q_162.2 hc_235) (blk 0 127) pf_C ob_nd (obx_f rfl) (OB g h_o al_h_o q_235.2 ++ [aI g h_ga n_ga a_ga, aJ g h_w n_w (vp_updL z_129.2.2 z_129.1.toNatClampNeg q_141.1)]) pf_S 0 8 rfl rfl yq_X8_flipSign rfl m_272 m_273 m_274 m_17 m_275 ⟨Nat.le_of_ble_eq_true rfl, Nat.le_of_ble_eq_true rfl⟩ rfl rfl hl.1 (Nat.le_of_ble_eq_true rfl) dL_law_235 hcs rfl (fun H locs hP hD hS => ?_)
                refine lv_if_ne (tgt := 286) hx hb dL_law_238 (by decide) (fun c_238 => ?_) (fun c_238 => ?_)
                · have hM := if_f hM c_238
                  refine lv_iinc (v := z_129.1 + (nI 1)) (lv' := [(5, .int (z_129.1 + (nI 1))), (7, .int q_162.1), (6, .int q_156), (4, .ref h_w), (3, .int t), (2, .ref h_o), (1, .ref h_ga), (0, .ref h_b)]) hx hb dL_law_286 hl (k := 2) rfl (congrArg (fun q => z_129.1 + q) (show Int32.ofInt (1) = (nI 1) by decide)) (by decide) rfl (fun ls hl => ?_)
                  refine lv_goto (tgt := 129) hx hb dL_law_289 (by decide) ?_
                  obtain rfl := Option.some.inj hM
                  exact ih _ hX _ _ _ hP hD hS (lv_sub hl [0, 3, 4, 5, 6, 7] rfl)
                · have hM := if_t hM c_238
                  cases hM
        · have hM := if_f hM c_169
          refine lv_iload hx hb dL_law_172 (lv_at hl 1 rfl) ?_
          refine lv_iconst (v := (nI 3)) hx hb dL_law_174 (by decide) ?_
          obtain ⟨q_175, hc_175, hM⟩ := bd_some hM
          refine w_callS cx hP hD hS hA (c_L_part g l q_156 (nI 3) hc_175) [] rfl (by decide) rfl (OB g h_o al_h_o q_162.2 ++ [aI g h_ga n_ga a_ga, aJ g h_w n_w (vp_updL z_129.2.2 z_129.1.toNatClampNeg q_141.1)]) rfl yq_L_part m_328 m_329 m_16 m_330 ⟨Nat.le_of_ble_eq_true rfl, Nat.le_of_ble_eq_true rfl⟩ rfl rfl hl.1 (Nat.le_of_ble_eq_true rfl) dL_law_175 hcs rfl (fun H locs hP hD hS => ?_)
          refine lv_if_ne (tgt := 203) hx hb dL_law_178 (by decide) (fun c_178 => ?_) (fun c_178 => ?_)
          · have hM := if_f hM c_178
            refine lv_iload hx hb dL_law_203 (lv_at hl 0 rfl) ?_
            refine lv_if_le (tgt := 218) hx hb dL_law_205 (by decide) (fun c_205 => ?_) (fun c_205 => ?_)
            · have hM := if_t hM c_205
              refine lv_iload hx hb dL_law_218 (lv_at hl 0 rfl) ?_
              refine lv_bipush (v := (nI 9)) hx hb dL_law_220 (by decide) ?_
              refine lv_icmp_ne (tgt := 243) hx hb dL_law_222 (by decide) (fun c_222 => ?_) (fun c_222 => ?_)
              · have hM := if_f hM c_222
                refine lv_iload hx hb dL_law_243 (lv_at hl 2 rfl) ?_
                refine lv_bipush (v := (nI 7)) hx hb dL_law_245 (by decide) ?_
                refine lv_icmp_ne (tgt := 259) hx hb dL_law_247 (by decide) (fun c_247 => ?_) (fun c_247 => ?_)
                · have hM := if_f hM c_247
                  refine lv_aload_n hx hb dL_law_259 rfl (lv_at hl 5 rfl) ?_
                  refine lv_iconst (v := (nI 0)) hx hb dL_law_260 (by decide) ?_
                  refine lv_iconst (v := (nI 1)) hx hb dL_law_261 (by decide) ?_
                  refine lv_iload hx hb dL_law_262 (lv_at hl 1 rfl) ?_
                  refine lv_iconst (v := (nI 2)) hx hb dL_law_264 (by decide) ?_
                  obtain ⟨q_265, hc_265, hM⟩ := bd_some hM
                  refine w_callS cx hP hD hS hA (c_L_part g l q_156 (nI 2) hc_265) [] rfl (by decide) rfl (OB g h_o al_h_o q_162.2 ++ [aI g h_ga n_ga a_ga, aJ g h_w n_w (vp_updL z_129.2.2 z_129.1.toNatClampNeg q_141.1)]) rfl yq_L_part m_328 m_329 m_16 m_330 ⟨Nat.le_of_ble_eq_true rfl, Nat.le_of_ble_eq_true rfl⟩ rfl rfl hl.1 (Nat.le_of_ble_eq_true rfl) dL_law_265 hcs rfl (fun H locs hP hD hS => ?_)
                  obtain ⟨j_268, hB, hM⟩ := bd_some hM
                  have hJ_268 : ∀ (H : Heap) (locs : List Loc) (ls : Array Slot), va_P (gD g) vwCl (OB g h_o al_h_o q_162.2 ++ [aI g h_ga n_ga a_ga, aJ g h_w n_w (vp_updL z_129.2.2 z_129.1.toNatClampNeg q_141.1)]) H → va_D A (OB g h_o al_h_o q_162.2 ++ [aI g h_ga n_ga a_ga, aJ g h_w n_w (vp_updL z_129.2.2 z_129.1.toNatClampNeg q_141.1)]) → va_S A s.heap H locs → lv_has ls 8 [(7, .int q_162.1), (5, .int z_129.1), (4, .ref h_w), (3, .int t), (2, .ref h_o), (1, .ref h_ga), (0, .ref h_b)] → W p l e room_1 s m #[Value.ref h_b] below meth c H locs cells slots Q (F0 m 276 ls [.int j_268, .int (nI 1), .int (nI 0), .ref h_o]) := by
                    intro H locs ls hP hD hS hl
                    obtain ⟨q_276, hc_276, hM⟩ := bd_some hM
                    refine w_callV cx hP hD hS hA (co_addEdge g l h_o al_h_o (nI 0) (nI 1) j_268 q_162.2 hc_276) (blk 0 127) pf_C ob_nd (obx_f rfl) (OB g h_o al_h_o q_276.2 ++ [aI g h_ga n_ga a_ga, aJ g h_w n_w (vp_updL z_129.2.2 z_129.1.toNatClampNeg q_141.1)]) pf_S 0 8 rfl rfl yq_X8_addEdge rfl m_231 m_232 m_233 m_17 m_234 ⟨Nat.le_of_ble_eq_true rfl, Nat.le_of_ble_eq_true rfl⟩ rfl rfl hl.1 (Nat.le_of_ble_eq_true rfl) dL_law_276 hcs rfl (fun H locs hP hD hS => ?_)
                    refine lv_iload hx hb dL_law_279 (lv_at hl 0 rfl) ?_
                    refine lv_icmp_eq (tgt := 286) hx hb dL_law_281 (by decide) (fun c_281 => ?_) (fun c_281 => ?_)
                    · have hM := if_t hM c_281
                      refine lv_iinc (v := z_129.1 + (nI 1)) (lv' := [(5, .int (z_129.1 + (nI 1))), (7, .int q_162.1), (4, .ref h_w), (3, .int t), (2, .ref h_o), (1, .ref h_ga), (0, .ref h_b)]) hx hb dL_law_286 hl (k := 1) rfl (congrArg (fun q => z_129.1 + q) (show Int32.ofInt (1) = (nI 1) by decide)) (by decide) rfl (fun ls hl => ?_)
                      refine lv_goto (tgt := 129) hx hb dL_law_289 (by decide) ?_
                      obtain rfl := Option.some.inj hM
                      exact ih _ hX _ _ _ hP hD hS (lv_sub hl [0, 2, 3, 4, 5, 6] rfl)
                    · have hM := if_f hM c_281
                      cases hM
                  clear hM
                  have hM := hB
                  clear hB
                  refine lv_if_ne (tgt := 275) hx hb dL_law_268 (by decide) (fun c_268 => ?_) (fun c_268 => ?_)
                  · have hM := if_f hM c_268
                    refine lv_iconst (v := (nI 4294967295)) hx hb dL_law_275 (by decide) ?_
                    obtain rfl := Option.some.inj hM
                    exact hJ_268 _ _ _ hP hD hS (lv_sub hl [0, 2, 3, 4, 5, 6, 7] rfl)
                  · have hM := if_t hM c_268
                    refine lv_iconst (v := (nI 1)) hx hb dL_law_271 (by decide) ?_
                    refine lv_goto (tgt := 276) hx hb dL_law_272 (by decide) ?_
                    obtain rfl := Option.some.inj hM
                    exact hJ_268 _ _ _ hP hD hS (lv_sub hl [0, 2, 3, 4, 5, 6, 7] rfl)
                · have hM := if_t hM c_247
                  refine lv_aload_n hx hb dL_law_250 rfl (lv_at hl 5 rfl) ?_
                  obtain ⟨q_251, hc_251, hM⟩ := bd_some hM
                  refine w_callV cx hP hD hS hA (co_loadGraph g l h_o al_h_o q_162.2 hc_251) (blk 0 127) pf_C ob_nd (obx_f rfl) (OB g h_o al_h_o q_251.2 ++ [aI g h_ga n_ga a_ga, aJ g h_w n_w (vp_updL z_129.2.2 z_129.1.toNatClampNeg q_141.1)]) pf_S 0 8 rfl rfl yq_X8_loadGraph rfl m_276 m_277 m_278 m_17 m_279 ⟨Nat.le_of_ble_eq_true rfl, Nat.le_of_ble_eq_true rfl⟩ rfl rfl hl.1 (Nat.le_of_ble_eq_true rfl) dL_law_251 hcs rfl (fun H locs hP hD hS => ?_)
                  refine lv_if_eq (tgt := 286) hx hb dL_law_254 (by decide) (fun c_254 => ?_) (fun c_254 => ?_)
                  · have hM := if_t hM c_254
                    refine lv_iinc (v := z_129.1 + (nI 1)) (lv' := [(5, .int (z_129.1 + (nI 1))), (7, .int q_162.1), (6, .int q_156), (4, .ref h_w), (3, .int t), (2, .ref h_o), (1, .ref h_ga), (0, .ref h_b)]) hx hb dL_law_286 hl (k := 2) rfl (congrArg (fun q => z_129.1 + q) (show Int32.ofInt (1) = (nI 1) by decide)) (by decide) rfl (fun ls hl => ?_)
                    refine lv_goto (tgt := 129) hx hb dL_law_289 (by decide) ?_
                    obtain rfl := Option.some.inj hM
                    exact ih _ hX _ _ _ hP hD hS (lv_sub hl [0, 3, 4, 5, 6, 7] rfl)
                  · have hM := if_f hM c_254
                    cases hM
              · have hM := if_t hM c_222
                refine lv_aload_n hx hb dL_law_225 rfl (lv_at hl 5 rfl) ?_
                refine lv_iload hx hb dL_law_226 (lv_at hl 1 rfl) ?_
                refine lv_iconst (v := (nI 2)) hx hb dL_law_228 (by decide) ?_
                refine lv_ishr hx hb dL_law_229 ?_
                refine lv_iload hx hb dL_law_230 (lv_at hl 0 rfl) ?_
                obtain ⟨q_232, hc_232, hM⟩ := bd_some hM
                refine w_callS cx hP hD hS hA (c_L_part g l (q_156 >>> ((nI 2) &&& 31)) q_162.1 hc_232) [] rfl (by decide) rfl (OB g h_o al_h_o q_162.2 ++ [aI g h_ga n_ga a_ga, aJ g h_w n_w (vp_updL z_129.2.2 z_129.1.toNatClampNeg q_141.1)]) rfl yq_L_part m_328 m_329 m_16 m_330 ⟨Nat.le_of_ble_eq_true rfl, Nat.le_of_ble_eq_true rfl⟩ rfl rfl hl.1 (Nat.le_of_ble_eq_true rfl) dL_law_232 hcs rfl (fun H locs hP hD hS => ?_)
                obtain ⟨q_235, hc_235, hM⟩ := bd_some hM
                refine w_callV cx hP hD hS hA (co_flipSign g l h_o al_h_o q_232 q_162.2 hc_235) (blk 0 127) pf_C ob_nd (obx_f rfl) (OB g h_o al_h_o q_235.2 ++ [aI g h_ga n_ga a_ga, aJ g h_w n_w (vp_updL z_129.2.2 z_129.1.toNatClampNeg q_141.1)]) pf_S 0 8 rfl rfl yq_X8_flipSign rfl m_272 m_273 m_274 m_17 m_275 ⟨Nat.le_of_ble_eq_true rfl, Nat.le_of_ble_eq_true rfl⟩ rfl rfl hl.1 (Nat.le_of_ble_eq_true rfl) dL_law_235 hcs rfl (fun H locs hP hD hS => ?_)
                refine lv_if_ne (tgt := 286) hx hb dL_law_238 (by decide) (fun c_238 => ?_) (fun c_238 => ?_)
                · have hM := if_f hM c_238
                  refine lv_iinc (v := z_129.1 + (nI 1)) (lv' := [(5, .int (z_129.1 + (nI 1))), (7, .int q_162.1), (6, .int q_156), (4, .ref h_w), (3, .int t), (2, .ref h_o), (1, .ref h_ga), (0, .ref h_b)]) hx hb dL_law_286 hl (k := 2) rfl (congrArg (fun q => z_129.1 + q) (show Int32.ofInt (1) = (nI 1) by decide)) (by decide) rfl (fun ls hl => ?_)
                  refine lv_goto (tgt := 129) hx hb dL_law_289 (by decide) ?_
                  obtain rfl := Option.some.inj hM
                  exact ih _ hX _ _ _ hP hD hS (lv_sub hl [0, 3, 4, 5, 6, 7] rfl)
                · have hM := if_t hM c_238
                  cases hM
            · have hM := if_f hM c_205
              refine lv_iload hx hb dL_law_208 (lv_at hl 1 rfl) ?_
              refine lv_iconst (v := (nI 3)) hx hb dL_law_210 (by decide) ?_
              obtain ⟨q_211, hc_211, hM⟩ := bd_some hM
              refine w_callS cx hP hD hS hA (c_L_part g l q_156 (nI 3) hc_211) [] rfl (by decide) rfl (OB g h_o al_h_o q_162.2 ++ [aI g h_ga n_ga a_ga, aJ g h_w n_w (vp_updL z_129.2.2 z_129.1.toNatClampNeg q_141.1)]) rfl yq_L_part m_328 m_329 m_16 m_330 ⟨Nat.le_of_ble_eq_true rfl, Nat.le_of_ble_eq_true rfl⟩ rfl rfl hl.1 (Nat.le_of_ble_eq_true rfl) dL_law_211 hcs rfl (fun H locs hP hD hS => ?_)
              refine lv_iconst (v := (nI 1)) hx hb dL_law_214 (by decide) ?_
              refine lv_icmp_eq (tgt := 225) hx hb dL_law_215 (by decide) (fun c_215 => ?_) (fun c_215 => ?_)
              · have hM := if_t hM c_215
                refine lv_aload_n hx hb dL_law_225 rfl (lv_at hl 5 rfl) ?_
                refine lv_iload hx hb dL_law_226 (lv_at hl 1 rfl) ?_
                refine lv_iconst (v := (nI 2)) hx hb dL_law_228 (by decide) ?_
                refine lv_ishr hx hb dL_law_229 ?_
                refine lv_iload hx hb dL_law_230 (lv_at hl 0 rfl) ?_
                obtain ⟨q_232, hc_232, hM⟩ := bd_some hM
                refine w_callS cx hP hD hS hA (c_L_part g l (q_156 >>> ((nI 2) &&& 31)) q_162.1 hc_232) [] rfl (by decide) rfl (OB g h_o al_h_o q_162.2 ++ [aI g h_ga n_ga a_ga, aJ g h_w n_w (vp_updL z_129.2.2 z_129.1.toNatClampNeg q_141.1)]) rfl yq_L_part m_328 m_329 m_16 m_330 ⟨Nat.le_of_ble_eq_true rfl, Nat.le_of_ble_eq_true rfl⟩ rfl rfl hl.1 (Nat.le_of_ble_eq_true rfl) dL_law_232 hcs rfl (fun H locs hP hD hS => ?_)
                obtain ⟨q_235, hc_235, hM⟩ := bd_some hM
                refine w_callV cx hP hD hS hA (co_flipSign g l h_o al_h_o q_232 q_162.2 hc_235) (blk 0 127) pf_C ob_nd (obx_f rfl) (OB g h_o al_h_o q_235.2 ++ [aI g h_ga n_ga a_ga, aJ g h_w n_w (vp_updL z_129.2.2 z_129.1.toNatClampNeg q_141.1)]) pf_S 0 8 rfl rfl yq_X8_flipSign rfl m_272 m_273 m_274 m_17 m_275 ⟨Nat.le_of_ble_eq_true rfl, Nat.le_of_ble_eq_true rfl⟩ rfl rfl hl.1 (Nat.le_of_ble_eq_true rfl) dL_law_235 hcs rfl (fun H locs hP hD hS => ?_)
                refine lv_if_ne (tgt := 286) hx hb dL_law_238 (by decide) (fun c_238 => ?_) (fun c_238 => ?_)
                · have hM := if_f hM c_238
                  refine lv_iinc (v := z_129.1 + (nI 1)) (lv' := [(5, .int (z_129.1 + (nI 1))), (7, .int q_162.1), (6, .int q_156), (4, .ref h_w), (3, .int t), (2, .ref h_o), (1, .ref h_ga), (0, .ref h_b)]) hx hb dL_law_286 hl (k := 2) rfl (congrArg (fun q => z_129.1 + q) (show Int32.ofInt (1) = (nI 1) by decide)) (by decide) rfl (fun ls hl => ?_)
                  refine lv_goto (tgt := 129) hx hb dL_law_289 (by decide) ?_
                  obtain rfl := Option.some.inj hM
                  exact ih _ hX _ _ _ hP hD hS (lv_sub hl [0, 3, 4, 5, 6, 7] rfl)
                · have hM := if_t hM c_238
                  cases hM
              · have hM := if_f hM c_215
                refine lv_iload hx hb dL_law_218 (lv_at hl 0 rfl) ?_
                refine lv_bipush (v := (nI 9)) hx hb dL_law_220 (by decide) ?_
                refine lv_icmp_ne (tgt := 243) hx hb dL_law_222 (by decide) (fun c_222 => ?_) (fun c_222 => ?_)
                · have hM := if_f hM c_222
                  refine lv_iload hx hb dL_law_243 (lv_at hl 2 rfl) ?_
                  refine lv_bipush (v := (nI 7)) hx hb dL_law_245 (by decide) ?_
                  refine lv_icmp_ne (tgt := 259) hx hb dL_law_247 (by decide) (fun c_247 => ?_) (fun c_247 => ?_)
                  · have hM := if_f hM c_247
                    refine lv_aload_n hx hb dL_law_259 rfl (lv_at hl 5 rfl) ?_
                    refine lv_iconst (v := (nI 0)) hx hb dL_law_260 (by decide) ?_
                    refine lv_iconst (v := (nI 1)) hx hb dL_law_261 (by decide) ?_
                    refine lv_iload hx hb dL_law_262 (lv_at hl 1 rfl) ?_
                    refine lv_iconst (v := (nI 2)) hx hb dL_law_264 (by decide) ?_
                    obtain ⟨q_265, hc_265, hM⟩ := bd_some hM
                    refine w_callS cx hP hD hS hA (c_L_part g l q_156 (nI 2) hc_265) [] rfl (by decide) rfl (OB g h_o al_h_o q_162.2 ++ [aI g h_ga n_ga a_ga, aJ g h_w n_w (vp_updL z_129.2.2 z_129.1.toNatClampNeg q_141.1)]) rfl yq_L_part m_328 m_329 m_16 m_330 ⟨Nat.le_of_ble_eq_true rfl, Nat.le_of_ble_eq_true rfl⟩ rfl rfl hl.1 (Nat.le_of_ble_eq_true rfl) dL_law_265 hcs rfl (fun H locs hP hD hS => ?_)
                    obtain ⟨j_268, hB, hM⟩ := bd_some hM
                    have hJ_268 : ∀ (H : Heap) (locs : List Loc) (ls : Array Slot), va_P (gD g) vwCl (OB g h_o al_h_o q_162.2 ++ [aI g h_ga n_ga a_ga, aJ g h_w n_w (vp_updL z_129.2.2 z_129.1.toNatClampNeg q_141.1)]) H → va_D A (OB g h_o al_h_o q_162.2 ++ [aI g h_ga n_ga a_ga, aJ g h_w n_w (vp_updL z_129.2.2 z_129.1.toNatClampNeg q_141.1)]) → va_S A s.heap H locs → lv_has ls 8 [(7, .int q_162.1), (5, .int z_129.1), (4, .ref h_w), (3, .int t), (2, .ref h_o), (1, .ref h_ga), (0, .ref h_b)] → W p l e room_1 s m #[Value.ref h_b] below meth c H locs cells slots Q (F0 m 276 ls [.int j_268, .int (nI 1), .int (nI 0), .ref h_o]) := by
                      intro H locs ls hP hD hS hl
                      obtain ⟨q_276, hc_276, hM⟩ := bd_some hM
                      refine w_callV cx hP hD hS hA (co_addEdge g l h_o al_h_o (nI 0) (nI 1) j_268 q_162.2 hc_276) (blk 0 127) pf_C ob_nd (obx_f rfl) (OB g h_o al_h_o q_276.2 ++ [aI g h_ga n_ga a_ga, aJ g h_w n_w (vp_updL z_129.2.2 z_129.1.toNatClampNeg q_141.1)]) pf_S 0 8 rfl rfl yq_X8_addEdge rfl m_231 m_232 m_233 m_17 m_234 ⟨Nat.le_of_ble_eq_true rfl, Nat.le_of_ble_eq_true rfl⟩ rfl rfl hl.1 (Nat.le_of_ble_eq_true rfl) dL_law_276 hcs rfl (fun H locs hP hD hS => ?_)
                      refine lv_iload hx hb dL_law_279 (lv_at hl 0 rfl) ?_
                      refine lv_icmp_eq (tgt := 286) hx hb dL_law_281 (by decide) (fun c_281 => ?_) (fun c_281 => ?_)
                      · have hM := if_t hM c_281
                        refine lv_iinc (v := z_129.1 + (nI 1)) (lv' := [(5, .int (z_129.1 + (nI 1))), (7, .int q_162.1), (4, .ref h_w), (3, .int t), (2, .ref h_o), (1, .ref h_ga), (0, .ref h_b)]) hx hb dL_law_286 hl (k := 1) rfl (congrArg (fun q => z_129.1 + q) (show Int32.ofInt (1) = (nI 1) by decide)) (by decide) rfl (fun ls hl => ?_)
                        refine lv_goto (tgt := 129) hx hb dL_law_289 (by decide) ?_
                        obtain rfl := Option.some.inj hM
                        exact ih _ hX _ _ _ hP hD hS (lv_sub hl [0, 2, 3, 4, 5, 6] rfl)
                      · have hM := if_f hM c_281
                        cases hM
                    clear hM
                    have hM := hB
                    clear hB
                    refine lv_if_ne (tgt := 275) hx hb dL_law_268 (by decide) (fun c_268 => ?_) (fun c_268 => ?_)
                    · have hM := if_f hM c_268
                      refine lv_iconst (v := (nI 4294967295)) hx hb dL_law_275 (by decide) ?_
                      obtain rfl := Option.some.inj hM
                      exact hJ_268 _ _ _ hP hD hS (lv_sub hl [0, 2, 3, 4, 5, 6, 7] rfl)
                    · have hM := if_t hM c_268
                      refine lv_iconst (v := (nI 1)) hx hb dL_law_271 (by decide) ?_
                      refine lv_goto (tgt := 276) hx hb dL_law_272 (by decide) ?_
                      obtain rfl := Option.some.inj hM
                      exact hJ_268 _ _ _ hP hD hS (lv_sub hl [0, 2, 3, 4, 5, 6, 7] rfl)
                  · have hM := if_t hM c_247
                    refine lv_aload_n hx hb dL_law_250 rfl (lv_at hl 5 rfl) ?_
                    obtain ⟨q_251, hc_251, hM⟩ := bd_some hM
                    refine w_callV cx hP hD hS hA (co_loadGraph g l h_o al_h_o q_162.2 hc_251) (blk 0 127) pf_C ob_nd (obx_f rfl) (OB g h_o al_h_o q_251.2 ++ [aI g h_ga n_ga a_ga, aJ g h_w n_w (vp_updL z_129.2.2 z_129.1.toNatClampNeg q_141.1)]) pf_S 0 8 rfl rfl yq_X8_loadGraph rfl m_276 m_277 m_278 m_17 m_279 ⟨Nat.le_of_ble_eq_true rfl, Nat.le_of_ble_eq_true rfl⟩ rfl rfl hl.1 (Nat.le_of_ble_eq_true rfl) dL_law_251 hcs rfl (fun H locs hP hD hS => ?_)
                    refine lv_if_eq (tgt := 286) hx hb dL_law_254 (by decide) (fun c_254 => ?_) (fun c_254 => ?_)
                    · have hM := if_t hM c_254
                      refine lv_iinc (v := z_129.1 + (nI 1)) (lv' := [(5, .int (z_129.1 + (nI 1))), (7, .int q_162.1), (6, .int q_156), (4, .ref h_w), (3, .int t), (2, .ref h_o), (1, .ref h_ga), (0, .ref h_b)]) hx hb dL_law_286 hl (k := 2) rfl (congrArg (fun q => z_129.1 + q) (show Int32.ofInt (1) = (nI 1) by decide)) (by decide) rfl (fun ls hl => ?_)
                      refine lv_goto (tgt := 129) hx hb dL_law_289 (by decide) ?_
                      obtain rfl := Option.some.inj hM
                      exact ih _ hX _ _ _ hP hD hS (lv_sub hl [0, 3, 4, 5, 6, 7] rfl)
                    · have hM := if_f hM c_254
                      cases hM
                · have hM := if_t hM c_222
                  refine lv_aload_n hx hb dL_law_225 rfl (lv_at hl 5 rfl) ?_
                  refine lv_iload hx hb dL_law_226 (lv_at hl 1 rfl) ?_
                  refine lv_iconst (v := (nI 2)) hx hb dL_law_228 (by decide) ?_
                  refine lv_ishr hx hb dL_law_229 ?_
                  refine lv_iload hx hb dL_law_230 (lv_at hl 0 rfl) ?_
                  obtain ⟨q_232, hc_232, hM⟩ := bd_some hM
                  refine w_callS cx hP hD hS hA (c_L_part g l (q_156 >>> ((nI 2) &&& 31)) q_162.1 hc_232) [] rfl (by decide) rfl (OB g h_o al_h_o q_162.2 ++ [aI g h_ga n_ga a_ga, aJ g h_w n_w (vp_updL z_129.2.2 z_129.1.toNatClampNeg q_141.1)]) rfl yq_L_part m_328 m_329 m_16 m_330 ⟨Nat.le_of_ble_eq_true rfl, Nat.le_of_ble_eq_true rfl⟩ rfl rfl hl.1 (Nat.le_of_ble_eq_true rfl) dL_law_232 hcs rfl (fun H locs hP hD hS => ?_)
                  obtain ⟨q_235, hc_235, hM⟩ := bd_some hM
                  refine w_callV cx hP hD hS hA (co_flipSign g l h_o al_h_o q_232 q_162.2 hc_235) (blk 0 127) pf_C ob_nd (obx_f rfl) (OB g h_o al_h_o q_235.2 ++ [aI g h_ga n_ga a_ga, aJ g h_w n_w (vp_updL z_129.2.2 z_129.1.toNatClampNeg q_141.1)]) pf_S 0 8 rfl rfl yq_X8_flipSign rfl m_272 m_273 m_274 m_17 m_275 ⟨Nat.le_of_ble_eq_true rfl, Nat.le_of_ble_eq_true rfl⟩ rfl rfl hl.1 (Nat.le_of_ble_eq_true rfl) dL_law_235 hcs rfl (fun H locs hP hD hS => ?_)
                  refine lv_if_ne (tgt := 286) hx hb dL_law_238 (by decide) (fun c_238 => ?_) (fun c_238 => ?_)
                  · have hM := if_f hM c_238
                    refine lv_iinc (v := z_129.1 + (nI 1)) (lv' := [(5, .int (z_129.1 + (nI 1))), (7, .int q_162.1), (6, .int q_156), (4, .ref h_w), (3, .int t), (2, .ref h_o), (1, .ref h_ga), (0, .ref h_b)]) hx hb dL_law_286 hl (k := 2) rfl (congrArg (fun q => z_129.1 + q) (show Int32.ofInt (1) = (nI 1) by decide)) (by decide) rfl (fun ls hl => ?_)
                    refine lv_goto (tgt := 129) hx hb dL_law_289 (by decide) ?_
                    obtain rfl := Option.some.inj hM
                    exact ih _ hX _ _ _ hP hD hS (lv_sub hl [0, 3, 4, 5, 6, 7] rfl)
                  · have hM := if_t hM c_238
                    cases hM
          · have hM := if_t hM c_178
            refine lv_aload_n hx hb dL_law_181 rfl (lv_at hl 5 rfl) ?_
            refine lv_iload hx hb dL_law_182 (lv_at hl 1 rfl) ?_
            refine lv_iconst (v := (nI 2)) hx hb dL_law_184 (by decide) ?_
            refine lv_ishr hx hb dL_law_185 ?_
            refine lv_iload hx hb dL_law_186 (lv_at hl 0 rfl) ?_
            obtain ⟨q_188, hc_188, hM⟩ := bd_some hM
            refine w_callS cx hP hD hS hA (c_L_part g l (q_156 >>> ((nI 2) &&& 31)) q_162.1 hc_188) [] rfl (by decide) rfl (OB g h_o al_h_o q_162.2 ++ [aI g h_ga n_ga a_ga, aJ g h_w n_w (vp_updL z_129.2.2 z_129.1.toNatClampNeg q_141.1)]) rfl yq_L_part m_328 m_329 m_16 m_330 ⟨Nat.le_of_ble_eq_true rfl, Nat.le_of_ble_eq_true rfl⟩ rfl rfl hl.1 (Nat.le_of_ble_eq_true rfl) dL_law_188 hcs rfl (fun H locs hP hD hS => ?_)
            obtain ⟨q_191, hc_191, hM⟩ := bd_some hM
            refine w_callV cx hP hD hS hA (co_removeEdge g l h_o al_h_o q_188 q_162.2 hc_191) (blk 0 127) pf_C ob_nd (obx_f rfl) (OB g h_o al_h_o q_191.2 ++ [aI g h_ga n_ga a_ga, aJ g h_w n_w (vp_updL z_129.2.2 z_129.1.toNatClampNeg q_141.1)]) pf_S 0 8 rfl rfl yq_X8_removeEdge rfl m_260 m_261 m_262 m_17 m_263 ⟨Nat.le_of_ble_eq_true rfl, Nat.le_of_ble_eq_true rfl⟩ rfl rfl hl.1 (Nat.le_of_ble_eq_true rfl) dL_law_191 hcs rfl (fun H locs hP hD hS => ?_)
            refine lv_iload hx hb dL_law_194 (lv_at hl 0 rfl) ?_
            refine lv_iconst (v := (nI 1)) hx hb dL_law_196 (by decide) ?_
            refine lv_isub hx hb dL_law_197 ?_
            refine lv_icmp_eq (tgt := 286) hx hb dL_law_198 (by decide) (fun c_198 => ?_) (fun c_198 => ?_)
            · have hM := if_t hM c_198
              refine lv_iinc (v := z_129.1 + (nI 1)) (lv' := [(5, .int (z_129.1 + (nI 1))), (7, .int q_162.1), (6, .int q_156), (4, .ref h_w), (3, .int t), (2, .ref h_o), (1, .ref h_ga), (0, .ref h_b)]) hx hb dL_law_286 hl (k := 2) rfl (congrArg (fun q => z_129.1 + q) (show Int32.ofInt (1) = (nI 1) by decide)) (by decide) rfl (fun ls hl => ?_)
              refine lv_goto (tgt := 129) hx hb dL_law_289 (by decide) ?_
              obtain rfl := Option.some.inj hM
              exact ih _ hX _ _ _ hP hD hS (lv_sub hl [0, 3, 4, 5, 6, 7] rfl)
            · have hM := if_f hM c_198
              cases hM
  exact hL_129 n _ hn _ _ _ hP hD hS (lv_sub hl [0, 1, 2, 3, 4, 5] rfl)
