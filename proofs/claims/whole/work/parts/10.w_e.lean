noncomputable def b_X9_laysEdges_24 (p1 : Int32) (t_saved : Int32) (t_letters : Int32) (t_stage : Int32) (a_t_now : Nat → Int32) (z_14 : Int32 × (Nat → Int64)) : Int32 × (Nat → Int64) → Option ((Int32 × (Nat → Int64)) ⊕ ((Nat → Int64))) := fun z_24 =>
  if ((nI 2) * (a_t_now (nI 1).toNatClampNeg)) ≤ z_24.1 then some (.inr z_24.2) else bd (f_X9_isNext z_14.1 z_24.1 t_saved t_letters t_stage ((nI 2) * (a_t_now (nI 1).toNatClampNeg)) a_t_now) (fun (q_35 : Int32) => bd (if q_35 = 0 then some (0 : Int64) else some (1 : Int64)) (fun (j_38 : Int64) => bd (if p1 = 0 then some j_38 else bd (f_X9_signOf z_14.1 t_saved t_letters t_stage ((nI 2) * (a_t_now (nI 1).toNatClampNeg)) a_t_now) (fun (q_66 : Int32) => some (j_38 * q_66.toInt64))) (fun (j_59 : Int64) => gd (inb (((nI 18) * z_14.1) + z_24.1) 324) (some (.inl (z_24.1 + (nI 1), vp_updL z_24.2 (((nI 18) * z_14.1) + z_24.1).toNatClampNeg j_59))))))
noncomputable def b_X9_laysEdges_14 (p1 : Int32) (t_saved : Int32) (t_letters : Int32) (t_stage : Int32) (a_t_now : Nat → Int32) : Int32 × (Nat → Int64) → Option ((Int32 × (Nat → Int64)) ⊕ ((Nat → Int64))) := fun z_14 =>
  if ((nI 2) * (a_t_now (nI 1).toNatClampNeg)) ≤ z_14.1 then some (.inr z_14.2) else bd (wh (b_X9_laysEdges_24 p1 t_saved t_letters t_stage a_t_now z_14) ((nI 0), z_14.2)) (fun (r_24 : Nat → Int64) => some (.inl (z_14.1 + (nI 1), r_24)))
noncomputable def f_X9_laysEdges (p1 : Int32) (t_saved : Int32) (t_letters : Int32) (t_stage : Int32) (t_size : Int32) (a_t_now : Nat → Int32) (a_t_matrix : Nat → Int64) : Option (Int32 × (Nat → Int64)) :=
  gd (inb (nI 1) 29) (bd (wh (b_X9_laysEdges_14 p1 t_saved t_letters t_stage a_t_now) ((nI 0), a_t_matrix)) (fun (r_14 : Nat → Int64) => some (((nI 2) * (a_t_now (nI 1).toNatClampNeg)), r_14)))
theorem yq_X9_laysEdges : yq yX9_laysEdges 1 := by unfold yq; decide +kernel
set_option maxHeartbeats 4000000 in
set_option maxRecDepth 100000 in
theorem c_X9_laysEdges (g : GG) (l : Launch) (h_t : Nat) (h_t_now : Nat) (h_t_read : Nat) (h_t_past : Nat) (h_t_text : Nat) (h_t_part : Nat) (h_t_matrix : Nat) (h_t_power : Nat) (h_t_product : Nat) (h_t_poly : Nat) (h_t_old : Nat) (h_t_step : Nat) (h_t_column : Nat) (h_t_moved : Nat) (h_t_traces : Nat) (h_t_signed : Nat) (h_t_plus : Nat) (h_t_minus : Nat) (h_t_walk : Nat) (p1 : Int32) (t_saved : Int32) (t_letters : Int32) (t_stage : Int32) (t_size : Int32) (a_t_now : Nat → Int32) (a_t_matrix : Nat → Int64) {R : Int32 × (Nat → Int64)} (hM : f_X9_laysEdges p1 t_saved t_letters t_stage t_size a_t_now a_t_matrix = some R) : CT g l yX9_laysEdges cX9_laysEdges 6 none 2 44 [.ref h_t, .int p1] [ob h_t 9 [.ref h_t_now, .ref h_t_read, .ref h_t_past, .int t_saved, .ref h_t_text, .int t_letters, .int t_stage, .ref h_t_part, .int t_size, .ref h_t_matrix, .ref h_t_power, .ref h_t_product, .ref h_t_poly, .ref h_t_old, .ref h_t_step, .ref h_t_column, .ref h_t_moved, .ref h_t_traces, .ref h_t_signed, .ref h_t_plus, .ref h_t_minus, .ref h_t_walk], aI g h_t_now 29 a_t_now, aJ g h_t_matrix 324 a_t_matrix] [ob h_t 9 [.ref h_t_now, .ref h_t_read, .ref h_t_past, .int t_saved, .ref h_t_text, .int t_letters, .int t_stage, .ref h_t_part, .int R.1, .ref h_t_matrix, .ref h_t_power, .ref h_t_product, .ref h_t_poly, .ref h_t_old, .ref h_t_step, .ref h_t_column, .ref h_t_moved, .ref h_t_traces, .ref h_t_signed, .ref h_t_plus, .ref h_t_minus, .ref h_t_walk], aI g h_t_now 29 a_t_now, aJ g h_t_matrix 324 R.2] none := by
  refine ct_v (by decide +kernel) (Nat.le_of_ble_eq_true rfl) ?_
  intro p e s m args below meth c Q A ls cx hP hD hA hl hfin
  obtain ⟨hx, hb, hml, hown, hts, hK⟩ := id cx
  have hl : lv_has ls 6 [(0, .ref h_t), (1, .int p1)] := hl
  have hS : va_S A s.heap s.heap [] := va_S.rf
  refine lv_aload_n hx hb dX9_laysEdges_0 rfl (lv_at hl 0 rfl) ?_
  refine lv_iconst (v := (nI 2)) hx hb dX9_laysEdges_1 (by decide) ?_
  refine lv_aload_n hx hb dX9_laysEdges_2 rfl (lv_at hl 0 rfl) ?_
  refine w_get cx hP 0 9 0 rfl rfl (by decide) m_644 rfl rfl dX9_laysEdges_3 ?_
  refine lv_iconst (v := (nI 1)) hx hb dX9_laysEdges_6 (by decide) ?_
  obtain ⟨g_7, hM⟩ := gd_some hM
  refine w_iald cx hP 1 rfl g_7 dX9_laysEdges_7 ?_
  refine lv_imul hx hb dX9_laysEdges_8 ?_
  refine w_put cx hP hD hS 0 9 8 rfl rfl (by decide) m_652 rfl rfl rfl (Nat.le_of_ble_eq_true rfl) dX9_laysEdges_9 [ob h_t 9 [.ref h_t_now, .ref h_t_read, .ref h_t_past, .int t_saved, .ref h_t_text, .int t_letters, .int t_stage, .ref h_t_part, .int ((nI 2) * (a_t_now (nI 1).toNatClampNeg)), .ref h_t_matrix, .ref h_t_power, .ref h_t_product, .ref h_t_poly, .ref h_t_old, .ref h_t_step, .ref h_t_column, .ref h_t_moved, .ref h_t_traces, .ref h_t_signed, .ref h_t_plus, .ref h_t_minus, .ref h_t_walk], aI g h_t_now 29 a_t_now, aJ g h_t_matrix 324 a_t_matrix] rfl (fun H locs hP hD hS => ?_)
  refine lv_iconst (v := (nI 0)) hx hb dX9_laysEdges_12 (by decide) ?_
  refine lv_istore_n (lv' := [(2, .int (nI 0)), (0, .ref h_t), (1, .int p1)]) hx hb dX9_laysEdges_13 rfl hl (by decide) rfl (fun ls hl => ?_)
  obtain ⟨r_14, hw, hM⟩ := bd_some hM
  obtain ⟨n, hn⟩ := wh_some hw
  clear hw
  have hE_14_0 : ∀ (H : Heap) (locs : List Loc) (ls : Array Slot), va_P (gD g) vwCl [ob h_t 9 [.ref h_t_now, .ref h_t_read, .ref h_t_past, .int t_saved, .ref h_t_text, .int t_letters, .int t_stage, .ref h_t_part, .int ((nI 2) * (a_t_now (nI 1).toNatClampNeg)), .ref h_t_matrix, .ref h_t_power, .ref h_t_product, .ref h_t_poly, .ref h_t_old, .ref h_t_step, .ref h_t_column, .ref h_t_moved, .ref h_t_traces, .ref h_t_signed, .ref h_t_plus, .ref h_t_minus, .ref h_t_walk], aI g h_t_now 29 a_t_now, aJ g h_t_matrix 324 r_14] H → va_D A [ob h_t 9 [.ref h_t_now, .ref h_t_read, .ref h_t_past, .int t_saved, .ref h_t_text, .int t_letters, .int t_stage, .ref h_t_part, .int ((nI 2) * (a_t_now (nI 1).toNatClampNeg)), .ref h_t_matrix, .ref h_t_power, .ref h_t_product, .ref h_t_poly, .ref h_t_old, .ref h_t_step, .ref h_t_column, .ref h_t_moved, .ref h_t_traces, .ref h_t_signed, .ref h_t_plus, .ref h_t_minus, .ref h_t_walk], aI g h_t_now 29 a_t_now, aJ g h_t_matrix 324 r_14] → va_S A s.heap H locs → lv_has ls 6 [] → W p l e (rmv 2 44) s m args below meth c H locs 0 0 Q (F0 m 89 ls []) := by
    intro H locs ls hP hD hS hl
    obtain rfl := Option.some.inj hM
    exact hfin 89 _ _ _ dX9_laysEdges_89 hP hD hS
  clear hM
  have hL_14 : ∀ (n : Nat) (z_14 : Int32 × (Nat → Int64)), it (b_X9_laysEdges_14 p1 t_saved t_letters t_stage a_t_now) n z_14 = some r_14 → ∀ (H : Heap) (locs : List Loc) (ls : Array Slot), va_P (gD g) vwCl [ob h_t 9 [.ref h_t_now, .ref h_t_read, .ref h_t_past, .int t_saved, .ref h_t_text, .int t_letters, .int t_stage, .ref h_t_part, .int ((nI 2) * (a_t_now (nI 1).toNatClampNeg)), .ref h_t_matrix, .ref h_t_power, .ref h_t_product, .ref h_t_poly, .ref h_t_old, .ref h_t_step, .ref h_t_column, .ref h_t_moved, .ref h_t_traces, .ref h_t_signed, .ref h_t_plus, .ref h_t_minus, .ref h_t_walk], aI g h_t_now 29 a_t_now, aJ g h_t_matrix 324 z_14.2] H → va_D A [ob h_t 9 [.ref h_t_now, .ref h_t_read, .ref h_t_past, .int t_saved, .ref h_t_text, .int t_letters, .int t_stage, .ref h_t_part, .int ((nI 2) * (a_t_now (nI 1).toNatClampNeg)), .ref h_t_matrix, .ref h_t_power, .ref h_t_product, .ref h_t_poly, .ref h_t_old, .ref h_t_step, .ref h_t_column, .ref h_t_moved, .ref h_t_traces, .ref h_t_signed, .ref h_t_plus, .ref h_t_minus, .ref h_t_walk], aI g h_t_now 29 a_t_now, aJ g h_t_matrix 324 z_14.2] → va_S A s.heap H locs → lv_has ls 6 [(2, .int z_14.1), (0, .ref h_t), (1, .int p1)] → W p l e (rmv 2 44) s m args below meth c H locs 0 0 Q (F0 m 14 ls []) := by
    intro n
    induction n with
    | zero => intro z_14 hn; exact (it_zero hn).elim
    | succ n ih =>
      intro z_14 hn H locs ls hP hD hS hl
      obtain ⟨x, hM, hX⟩ := it_succ hn
      clear hn
      refine lv_iload_n hx hb dX9_laysEdges_14 rfl (lv_at hl 0 rfl) ?_
      refine lv_aload_n hx hb dX9_laysEdges_15 rfl (lv_at hl 1 rfl) ?_
      refine w_get cx hP 0 9 8 rfl rfl (by decide) m_652 rfl rfl dX9_laysEdges_16 ?_
      refine lv_icmp_ge (tgt := 89) hx hb dX9_laysEdges_19 (by decide) (fun c_19 => ?_) (fun c_19 => ?_)
      · have hM := if_t hM c_19
        obtain rfl := Option.some.inj hM
        obtain rfl : _ = r_14 := hX
        exact hE_14_0 _ _ _ hP hD hS (lv_sub hl [] rfl)
      · have hM := if_f hM c_19
        refine lv_iconst (v := (nI 0)) hx hb dX9_laysEdges_22 (by decide) ?_
        refine lv_istore_n (lv' := [(3, .int (nI 0)), (2, .int z_14.1), (0, .ref h_t), (1, .int p1)]) hx hb dX9_laysEdges_23 rfl hl (by decide) rfl (fun ls hl => ?_)
        obtain ⟨r_24, hw, hM⟩ := bd_some hM
        obtain ⟨n, hn⟩ := wh_some hw
        clear hw
        have hE_24_0 : ∀ (H : Heap) (locs : List Loc) (ls : Array Slot), va_P (gD g) vwCl [ob h_t 9 [.ref h_t_now, .ref h_t_read, .ref h_t_past, .int t_saved, .ref h_t_text, .int t_letters, .int t_stage, .ref h_t_part, .int ((nI 2) * (a_t_now (nI 1).toNatClampNeg)), .ref h_t_matrix, .ref h_t_power, .ref h_t_product, .ref h_t_poly, .ref h_t_old, .ref h_t_step, .ref h_t_column, .ref h_t_moved, .ref h_t_traces, .ref h_t_signed, .ref h_t_plus, .ref h_t_minus, .ref h_t_walk], aI g h_t_now 29 a_t_now, aJ g h_t_matrix 324 r_24] H → va_D A [ob h_t 9 [.ref h_t_now, .ref h_t_read, .ref h_t_past, .int t_saved, .ref h_t_text, .int t_letters, .int t_stage, .ref h_t_part, .int ((nI 2) * (a_t_now (nI 1).toNatClampNeg)), .ref h_t_matrix, .ref h_t_power, .ref h_t_product, .ref h_t_poly, .ref h_t_old, .ref h_t_step, .ref h_t_column, .ref h_t_moved, .ref h_t_traces, .ref h_t_signed, .ref h_t_plus, .ref h_t_minus, .ref h_t_walk], aI g h_t_now 29 a_t_now, aJ g h_t_matrix 324 r_24] → va_S A s.heap H locs → lv_has ls 6 [(2, .int z_14.1), (0, .ref h_t), (1, .int p1)] → W p l e (rmv 2 44) s m args below meth c H locs 0 0 Q (F0 m 83 ls []) := by
          intro H locs ls hP hD hS hl
          refine lv_iinc (v := z_14.1 + (nI 1)) (lv' := [(2, .int (z_14.1 + (nI 1))), (0, .ref h_t), (1, .int p1)]) hx hb dX9_laysEdges_83 hl (k := 0) rfl (congrArg (fun q => z_14.1 + q) (show Int32.ofInt (1) = (nI 1) by decide)) (by decide) rfl (fun ls hl => ?_)
          refine lv_goto (tgt := 14) hx hb dX9_laysEdges_86 (by decide) ?_
          obtain rfl := Option.some.inj hM
          exact ih _ hX _ _ _ hP hD hS (lv_sub hl [0, 1, 2] rfl)
        clear hM
        have hL_24 : ∀ (n : Nat) (z_24 : Int32 × (Nat → Int64)), it (b_X9_laysEdges_24 p1 t_saved t_letters t_stage a_t_now z_14) n z_24 = some r_24 → ∀ (H : Heap) (locs : List Loc) (ls : Array Slot), va_P (gD g) vwCl [ob h_t 9 [.ref h_t_now, .ref h_t_read, .ref h_t_past, .int t_saved, .ref h_t_text, .int t_letters, .int t_stage, .ref h_t_part, .int ((nI 2) * (a_t_now (nI 1).toNatClampNeg)), .ref h_t_matrix, .ref h_t_power, .ref h_t_product, .ref h_t_poly, .ref h_t_old, .ref h_t_step, .ref h_t_column, .ref h_t_moved, .ref h_t_traces, .ref h_t_signed, .ref h_t_plus, .ref h_t_minus, .ref h_t_walk], aI g h_t_now 29 a_t_now, aJ g h_t_matrix 324 z_24.2] H → va_D A [ob h_t 9 [.ref h_t_now, .ref h_t_read, .ref h_t_past, .int t_saved, .ref h_t_text, .int t_letters, .int t_stage, .ref h_t_part, .int ((nI 2) * (a_t_now (nI 1).toNatClampNeg)), .ref h_t_matrix, .ref h_t_power, .ref h_t_product, .ref h_t_poly, .ref h_t_old, .ref h_t_step, .ref h_t_column, .ref h_t_moved, .ref h_t_traces, .ref h_t_signed, .ref h_t_plus, .ref h_t_minus, .ref h_t_walk], aI g h_t_now 29 a_t_now, aJ g h_t_matrix 324 z_24.2] → va_S A s.heap H locs → lv_has ls 6 [(3, .int z_24.1), (2, .int z_14.1), (0, .ref h_t), (1, .int p1)] → W p l e (rmv 2 44) s m args below meth c H locs 0 0 Q (F0 m 24 ls []) := by
          intro n
          induction n with
          | zero => intro z_24 hn; exact (it_zero hn).elim
          | succ n ih =>
            intro z_24 hn H locs ls hP hD hS hl
            obtain ⟨x, hM, hX⟩ := it_succ hn
            clear hn
            refine lv_iload_n hx hb dX9_laysEdges_24 rfl (lv_at hl 0 rfl) ?_
            refine lv_aload_n hx hb dX9_laysEdges_25 rfl (lv_at hl 2 rfl) ?_
            refine w_get cx hP 0 9 8 rfl rfl (by decide) m_652 rfl rfl dX9_laysEdges_26 ?_
            refine lv_icmp_ge (tgt := 83) hx hb dX9_laysEdges_29 (by decide) (fun c_29 => ?_) (fun c_29 => ?_)
            · have hM := if_t hM c_29
              obtain rfl := Option.some.inj hM
              obtain rfl : _ = r_24 := hX
              exact hE_24_0 _ _ _ hP hD hS (lv_sub hl [1, 2, 3] rfl)
            · have hM := if_f hM c_29
              refine lv_aload_n hx hb dX9_laysEdges_32 rfl (lv_at hl 2 rfl) ?_
              refine lv_iload_n hx hb dX9_laysEdges_33 rfl (lv_at hl 1 rfl) ?_
              refine lv_iload_n hx hb dX9_laysEdges_34 rfl (lv_at hl 0 rfl) ?_
              obtain ⟨q_35, hc_35, hM⟩ := bd_some hM
              refine w_callV cx hP hD hS hA (c_X9_isNext g l h_t h_t_now h_t_read h_t_past h_t_text h_t_part h_t_matrix h_t_power h_t_product h_t_poly h_t_old h_t_step h_t_column h_t_moved h_t_traces h_t_signed h_t_plus h_t_minus h_t_walk z_14.1 z_24.1 t_saved t_letters t_stage ((nI 2) * (a_t_now (nI 1).toNatClampNeg)) a_t_now hc_35) [0, 1] rfl (by decide) rfl [ob h_t 9 [.ref h_t_now, .ref h_t_read, .ref h_t_past, .int t_saved, .ref h_t_text, .int t_letters, .int t_stage, .ref h_t_part, .int ((nI 2) * (a_t_now (nI 1).toNatClampNeg)), .ref h_t_matrix, .ref h_t_power, .ref h_t_product, .ref h_t_poly, .ref h_t_old, .ref h_t_step, .ref h_t_column, .ref h_t_moved, .ref h_t_traces, .ref h_t_signed, .ref h_t_plus, .ref h_t_minus, .ref h_t_walk], aI g h_t_now 29 a_t_now, aJ g h_t_matrix 324 z_24.2] rfl 0 9 rfl rfl yq_X9_isNext rfl m_790 m_792 m_23 m_51 m_793 ⟨Nat.le_of_ble_eq_true rfl, Nat.le_of_ble_eq_true rfl⟩ rfl rfl hl.1 (Nat.le_of_ble_eq_true rfl) dX9_laysEdges_35 ⟨Nat.le_refl 0, Nat.le_refl 0⟩ rfl (fun H locs hP hD hS => ?_)
              obtain ⟨j_38, hB, hM⟩ := bd_some hM
              have hJ_38 : ∀ (H : Heap) (locs : List Loc) (ls : Array Slot), va_P (gD g) vwCl [ob h_t 9 [.ref h_t_now, .ref h_t_read, .ref h_t_past, .int t_saved, .ref h_t_text, .int t_letters, .int t_stage, .ref h_t_part, .int ((nI 2) * (a_t_now (nI 1).toNatClampNeg)), .ref h_t_matrix, .ref h_t_power, .ref h_t_product, .ref h_t_poly, .ref h_t_old, .ref h_t_step, .ref h_t_column, .ref h_t_moved, .ref h_t_traces, .ref h_t_signed, .ref h_t_plus, .ref h_t_minus, .ref h_t_walk], aI g h_t_now 29 a_t_now, aJ g h_t_matrix 324 z_24.2] H → va_D A [ob h_t 9 [.ref h_t_now, .ref h_t_read, .ref h_t_past, .int t_saved, .ref h_t_text, .int t_letters, .int t_stage, .ref h_t_part, .int ((nI 2) * (a_t_now (nI 1).toNatClampNeg)), .ref h_t_matrix, .ref h_t_power, .ref h_t_product, .ref h_t_poly, .ref h_t_old, .ref h_t_step, .ref h_t_column, .ref h_t_moved, .ref h_t_traces, .ref h_t_signed, .ref h_t_plus, .ref h_t_minus, .ref h_t_walk], aI g h_t_now 29 a_t_now, aJ g h_t_matrix 324 z_24.2] → va_S A s.heap H locs → lv_has ls 6 [(3, .int z_24.1), (2, .int z_14.1), (0, .ref h_t), (1, .int p1)] → W p l e (rmv 2 44) s m args below meth c H locs 0 0 Q (F0 m 46 ls [.long j_38]) := by
                intro H locs ls hP hD hS hl
                refine lv_lstore (lv' := [(4, .long j_38), (3, .int z_24.1), (2, .int z_14.1), (0, .ref h_t), (1, .int p1)]) hx hb dX9_laysEdges_46 hl (by decide) rfl (fun ls hl => ?_)
                refine lv_aload_n hx hb dX9_laysEdges_48 rfl (lv_at hl 3 rfl) ?_
                refine w_get cx hP 0 9 9 rfl rfl (by decide) m_653 rfl rfl dX9_laysEdges_49 ?_
                refine lv_bipush (v := (nI 18)) hx hb dX9_laysEdges_52 (by decide) ?_
                refine lv_iload_n hx hb dX9_laysEdges_54 rfl (lv_at hl 2 rfl) ?_
                refine lv_imul hx hb dX9_laysEdges_55 ?_
                refine lv_iload_n hx hb dX9_laysEdges_56 rfl (lv_at hl 1 rfl) ?_
                refine lv_iadd hx hb dX9_laysEdges_57 ?_
                refine lv_iload_n hx hb dX9_laysEdges_58 rfl (lv_at hl 4 rfl) ?_
                obtain ⟨j_59, hB, hM⟩ := bd_some hM
                have hJ_59 : ∀ (H : Heap) (locs : List Loc) (ls : Array Slot), va_P (gD g) vwCl [ob h_t 9 [.ref h_t_now, .ref h_t_read, .ref h_t_past, .int t_saved, .ref h_t_text, .int t_letters, .int t_stage, .ref h_t_part, .int ((nI 2) * (a_t_now (nI 1).toNatClampNeg)), .ref h_t_matrix, .ref h_t_power, .ref h_t_product, .ref h_t_poly, .ref h_t_old, .ref h_t_step, .ref h_t_column, .ref h_t_moved, .ref h_t_traces, .ref h_t_signed, .ref h_t_plus, .ref h_t_minus, .ref h_t_walk], aI g h_t_now 29 a_t_now, aJ g h_t_matrix 324 z_24.2] H → va_D A [ob h_t 9 [.ref h_t_now, .ref h_t_read, .ref h_t_past, .int t_saved, .ref h_t_text, .int t_letters, .int t_stage, .ref h_t_part, .int ((nI 2) * (a_t_now (nI 1).toNatClampNeg)), .ref h_t_matrix, .ref h_t_power, .ref h_t_product, .ref h_t_poly, .ref h_t_old, .ref h_t_step, .ref h_t_column, .ref h_t_moved, .ref h_t_traces, .ref h_t_signed, .ref h_t_plus, .ref h_t_minus, .ref h_t_walk], aI g h_t_now 29 a_t_now, aJ g h_t_matrix 324 z_24.2] → va_S A s.heap H locs → lv_has ls 6 [(3, .int z_24.1), (2, .int z_14.1), (0, .ref h_t), (1, .int p1)] → W p l e (rmv 2 44) s m args below meth c H locs 0 0 Q (F0 m 76 ls [.long j_59, .int (((nI 18) * z_14.1) + z_24.1), .ref h_t_matrix]) := by
                  intro H locs ls hP hD hS hl
                  obtain ⟨g_76, hM⟩ := gd_some hM
                  refine w_last cx hP hD hS 2 rfl g_76 dX9_laysEdges_76 [ob h_t 9 [.ref h_t_now, .ref h_t_read, .ref h_t_past, .int t_saved, .ref h_t_text, .int t_letters, .int t_stage, .ref h_t_part, .int ((nI 2) * (a_t_now (nI 1).toNatClampNeg)), .ref h_t_matrix, .ref h_t_power, .ref h_t_product, .ref h_t_poly, .ref h_t_old, .ref h_t_step, .ref h_t_column, .ref h_t_moved, .ref h_t_traces, .ref h_t_signed, .ref h_t_plus, .ref h_t_minus, .ref h_t_walk], aI g h_t_now 29 a_t_now, aJ g h_t_matrix 324 (vp_updL z_24.2 (((nI 18) * z_14.1) + z_24.1).toNatClampNeg j_59)] rfl (fun H locs hP hD hS => ?_)
                  refine lv_iinc (v := z_24.1 + (nI 1)) (lv' := [(3, .int (z_24.1 + (nI 1))), (2, .int z_14.1), (0, .ref h_t), (1, .int p1)]) hx hb dX9_laysEdges_77 hl (k := 0) rfl (congrArg (fun q => z_24.1 + q) (show Int32.ofInt (1) = (nI 1) by decide)) (by decide) rfl (fun ls hl => ?_)
                  refine lv_goto (tgt := 24) hx hb dX9_laysEdges_80 (by decide) ?_
                  obtain rfl := Option.some.inj hM
                  exact ih _ hX _ _ _ hP hD hS (lv_sub hl [0, 1, 2, 3] rfl)
                clear hM
                have hM := hB
                clear hB
                refine lv_if_eq (tgt := 74) hx hb dX9_laysEdges_59 (by decide) (fun c_59 => ?_) (fun c_59 => ?_)
                · have hM := if_t hM c_59
                  refine lv_lload hx hb dX9_laysEdges_74 (lv_at hl 0 rfl) ?_
                  obtain rfl := Option.some.inj hM
                  exact hJ_59 _ _ _ hP hD hS (lv_sub hl [1, 2, 3, 4] rfl)
                · have hM := if_f hM c_59
                  refine lv_lload hx hb dX9_laysEdges_62 (lv_at hl 0 rfl) ?_
                  refine lv_aload_n hx hb dX9_laysEdges_64 rfl (lv_at hl 3 rfl) ?_
                  refine lv_iload_n hx hb dX9_laysEdges_65 rfl (lv_at hl 2 rfl) ?_
                  obtain ⟨q_66, hc_66, hM⟩ := bd_some hM
                  refine w_callV cx hP hD hS hA (c_X9_signOf g l h_t h_t_now h_t_read h_t_past h_t_text h_t_part h_t_matrix h_t_power h_t_product h_t_poly h_t_old h_t_step h_t_column h_t_moved h_t_traces h_t_signed h_t_plus h_t_minus h_t_walk z_14.1 t_saved t_letters t_stage ((nI 2) * (a_t_now (nI 1).toNatClampNeg)) a_t_now hc_66) [0, 1] rfl (by decide) rfl [ob h_t 9 [.ref h_t_now, .ref h_t_read, .ref h_t_past, .int t_saved, .ref h_t_text, .int t_letters, .int t_stage, .ref h_t_part, .int ((nI 2) * (a_t_now (nI 1).toNatClampNeg)), .ref h_t_matrix, .ref h_t_power, .ref h_t_product, .ref h_t_poly, .ref h_t_old, .ref h_t_step, .ref h_t_column, .ref h_t_moved, .ref h_t_traces, .ref h_t_signed, .ref h_t_plus, .ref h_t_minus, .ref h_t_walk], aI g h_t_now 29 a_t_now, aJ g h_t_matrix 324 z_24.2] rfl 0 9 rfl rfl yq_X9_signOf rfl m_818 m_820 m_26 m_51 m_821 ⟨Nat.le_of_ble_eq_true rfl, Nat.le_of_ble_eq_true rfl⟩ rfl rfl hl.1 (Nat.le_of_ble_eq_true rfl) dX9_laysEdges_66 ⟨Nat.le_refl 0, Nat.le_refl 0⟩ rfl (fun H locs hP hD hS => ?_)
                  refine lv_i2l (v := q_66.toInt64) hx hb dX9_laysEdges_69 rfl ?_
                  refine lv_lmul hx hb dX9_laysEdges_70 ?_
                  refine lv_goto (tgt := 76) hx hb dX9_laysEdges_71 (by decide) ?_
                  obtain rfl := Option.some.inj hM
                  exact hJ_59 _ _ _ hP hD hS (lv_sub hl [1, 2, 3, 4] rfl)
              clear hM
              have hM := hB
              clear hB
              refine lv_if_eq (tgt := 45) hx hb dX9_laysEdges_38 (by decide) (fun c_38 => ?_) (fun c_38 => ?_)
              · have hM := if_t hM c_38
                refine lv_lconst (v := (0 : Int64)) hx hb dX9_laysEdges_45 (by decide) ?_
                obtain rfl := Option.some.inj hM
                exact hJ_38 _ _ _ hP hD hS (lv_sub hl [0, 1, 2, 3] rfl)
              · have hM := if_f hM c_38
                refine lv_lconst (v := (1 : Int64)) hx hb dX9_laysEdges_41 (by decide) ?_
                refine lv_goto (tgt := 46) hx hb dX9_laysEdges_42 (by decide) ?_
                obtain rfl := Option.some.inj hM
                exact hJ_38 _ _ _ hP hD hS (lv_sub hl [0, 1, 2, 3] rfl)
        exact hL_24 n _ hn _ _ _ hP hD hS (lv_sub hl [0, 1, 2, 3] rfl)
  exact hL_14 n _ hn _ _ _ hP hD hS (lv_sub hl [0, 1, 2] rfl)
noncomputable def b_X9_laysVertices_87 (t_saved : Int32) (t_letters : Int32) (t_stage : Int32) (a_t_now : Nat → Int32) (x_6 : Int32) : Int32 × (Nat → Int64) → Option ((Int32 × (Nat → Int64)) ⊕ ((Nat → Int64))) := fun z_87 =>
  if x_6 ≤ z_87.1 then some (.inr z_87.2) else bd (f_X9_degreeOf z_87.1 t_saved t_letters t_stage ((nI 2) * x_6) a_t_now) (fun (q_107 : Int32) => gd (inb ((((nI 18) * z_87.1) + x_6) + z_87.1) 324) (gd (inb (((nI 18) * (x_6 + z_87.1)) + z_87.1) 324) (some (.inl (z_87.1 + (nI 1), vp_updL (vp_updL z_87.2 ((((nI 18) * z_87.1) + x_6) + z_87.1).toNatClampNeg ((1 : Int64) - q_107.toInt64)) (((nI 18) * (x_6 + z_87.1)) + z_87.1).toNatClampNeg (1 : Int64))))))
noncomputable def b_X9_laysVertices_42 (t_saved : Int32) (t_letters : Int32) (t_stage : Int32) (a_t_now : Nat → Int32) (x_6 : Int32) : Int32 × (Nat → Int64) → Option ((Int32 × (Nat → Int64)) ⊕ ((Nat → Int64))) := fun z_42 =>
  gd (inb (nI 1) 29) (if ((nI 2) * (a_t_now (nI 1).toNatClampNeg)) ≤ z_42.1 then some (.inr z_42.2) else bd (f_X9_endOf z_42.1 (nI 0) t_saved t_letters t_stage ((nI 2) * x_6) a_t_now) (fun (q_63 : Int32) => bd (f_X9_endOf z_42.1 (nI 1) t_saved t_letters t_stage ((nI 2) * x_6) a_t_now) (fun (q_70 : Int32) => gd (inb (((nI 18) * q_63) + q_70) 324) (gd (inb (((nI 18) * q_63) + q_70) 324) (some (.inl (z_42.1 + (nI 1), vp_updL z_42.2 (((nI 18) * q_63) + q_70).toNatClampNeg ((z_42.2 (((nI 18) * q_63) + q_70).toNatClampNeg) + (1 : Int64)))))))))
noncomputable def b_X9_laysVertices_16 (x_6 : Int32) : Int32 × (Nat → Int64) → Option ((Int32 × (Nat → Int64)) ⊕ ((Nat → Int64))) := fun z_16 =>
  if ((nI 18) * ((nI 2) * x_6)) ≤ z_16.1 then some (.inr z_16.2) else gd (inb z_16.1 324) (some (.inl (z_16.1 + (nI 1), vp_updL z_16.2 z_16.1.toNatClampNeg (0 : Int64))))
noncomputable def f_X9_laysVertices (t_saved : Int32) (t_letters : Int32) (t_stage : Int32) (t_size : Int32) (a_t_now : Nat → Int32) (a_t_matrix : Nat → Int64) : Option (Int32 × (Nat → Int64)) :=
  gd (inb (nI 0) 29) (nm (a_t_now (nI 0).toNatClampNeg) (fun (x_6 : Int32) => bd (wh (b_X9_laysVertices_16 x_6) ((nI 0), a_t_matrix)) (fun (r_16 : Nat → Int64) => bd (wh (b_X9_laysVertices_42 t_saved t_letters t_stage a_t_now x_6) ((nI 0), r_16)) (fun (r_42 : Nat → Int64) => bd (wh (b_X9_laysVertices_87 t_saved t_letters t_stage a_t_now x_6) ((nI 0), r_42)) (fun (r_87 : Nat → Int64) => some (((nI 2) * x_6), r_87))))))
theorem yq_X9_laysVertices : yq yX9_laysVertices 0 := by unfold yq; decide +kernel
set_option maxHeartbeats 4000000 in
set_option maxRecDepth 100000 in
theorem c_X9_laysVertices (g : GG) (l : Launch) (h_t : Nat) (h_t_now : Nat) (h_t_read : Nat) (h_t_past : Nat) (h_t_text : Nat) (h_t_part : Nat) (h_t_matrix : Nat) (h_t_power : Nat) (h_t_product : Nat) (h_t_poly : Nat) (h_t_old : Nat) (h_t_step : Nat) (h_t_column : Nat) (h_t_moved : Nat) (h_t_traces : Nat) (h_t_signed : Nat) (h_t_plus : Nat) (h_t_minus : Nat) (h_t_walk : Nat) (t_saved : Int32) (t_letters : Int32) (t_stage : Int32) (t_size : Int32) (a_t_now : Nat → Int32) (a_t_matrix : Nat → Int64) {R : Int32 × (Nat → Int64)} (hM : f_X9_laysVertices t_saved t_letters t_stage t_size a_t_now a_t_matrix = some R) : CT g l yX9_laysVertices cX9_laysVertices 3 none 2 45 [.ref h_t] [ob h_t 9 [.ref h_t_now, .ref h_t_read, .ref h_t_past, .int t_saved, .ref h_t_text, .int t_letters, .int t_stage, .ref h_t_part, .int t_size, .ref h_t_matrix, .ref h_t_power, .ref h_t_product, .ref h_t_poly, .ref h_t_old, .ref h_t_step, .ref h_t_column, .ref h_t_moved, .ref h_t_traces, .ref h_t_signed, .ref h_t_plus, .ref h_t_minus, .ref h_t_walk], aI g h_t_now 29 a_t_now, aJ g h_t_matrix 324 a_t_matrix] [ob h_t 9 [.ref h_t_now, .ref h_t_read, .ref h_t_past, .int t_saved, .ref h_t_text, .int t_letters, .int t_stage, .ref h_t_part, .int R.1, .ref h_t_matrix, .ref h_t_power, .ref h_t_product, .ref h_t_poly, .ref h_t_old, .ref h_t_step, .ref h_t_column, .ref h_t_moved, .ref h_t_traces, .ref h_t_signed, .ref h_t_plus, .ref h_t_minus, .ref h_t_walk], aI g h_t_now 29 a_t_now, aJ g h_t_matrix 324 R.2] none := by
  refine ct_v (by decide +kernel) (Nat.le_of_ble_eq_true rfl) ?_
  intro p e s m args below meth c Q A ls cx hP hD hA hl hfin
  obtain ⟨hx, hb, hml, hown, hts, hK⟩ := id cx
  have hl : lv_has ls 3 [(0, .ref h_t)] := hl
  have hS : va_S A s.heap s.heap [] := va_S.rf
  refine lv_aload_n hx hb dX9_laysVertices_0 rfl (lv_at hl 0 rfl) ?_
  refine w_get cx hP 0 9 0 rfl rfl (by decide) m_644 rfl rfl dX9_laysVertices_1 ?_
  refine lv_iconst (v := (nI 0)) hx hb dX9_laysVertices_4 (by decide) ?_
  obtain ⟨g_5, hM⟩ := gd_some hM
  refine w_iald cx hP 1 rfl g_5 dX9_laysVertices_5 ?_
  refine lv_topi (fun x_6 ex_6 => ?_)
  have hM := nm_some hM x_6 ex_6
  refine lv_istore_n (lv' := [(1, .int x_6), (0, .ref h_t)]) hx hb dX9_laysVertices_6 rfl hl (by decide) rfl (fun ls hl => ?_)
  refine lv_aload_n hx hb dX9_laysVertices_7 rfl (lv_at hl 1 rfl) ?_
  refine lv_iconst (v := (nI 2)) hx hb dX9_laysVertices_8 (by decide) ?_
  refine lv_iload_n hx hb dX9_laysVertices_9 rfl (lv_at hl 0 rfl) ?_
  refine lv_imul hx hb dX9_laysVertices_10 ?_
  refine w_put cx hP hD hS 0 9 8 rfl rfl (by decide) m_652 rfl rfl rfl (Nat.le_of_ble_eq_true rfl) dX9_laysVertices_11 [ob h_t 9 [.ref h_t_now, .ref h_t_read, .ref h_t_past, .int t_saved, .ref h_t_text, .int t_letters, .int t_stage, .ref h_t_part, .int ((nI 2) * x_6), .ref h_t_matrix, .ref h_t_power, .ref h_t_product, .ref h_t_poly, .ref h_t_old, .ref h_t_step, .ref h_t_column, .ref h_t_moved, .ref h_t_traces, .ref h_t_signed, .ref h_t_plus, .ref h_t_minus, .ref h_t_walk], aI g h_t_now 29 a_t_now, aJ g h_t_matrix 324 a_t_matrix] rfl (fun H locs hP hD hS => ?_)
  refine lv_iconst (v := (nI 0)) hx hb dX9_laysVertices_14 (by decide) ?_
  refine lv_istore_n (lv' := [(2, .int (nI 0)), (1, .int x_6), (0, .ref h_t)]) hx hb dX9_laysVertices_15 rfl hl (by decide) rfl (fun ls hl => ?_)
  obtain ⟨r_16, hw, hM⟩ := bd_some hM
  obtain ⟨n, hn⟩ := wh_some hw
  clear hw
  have hE_16_0 : ∀ (H : Heap) (locs : List Loc) (ls : Array Slot), va_P (gD g) vwCl [ob h_t 9 [.ref h_t_now, .ref h_t_read, .ref h_t_past, .int t_saved, .ref h_t_text, .int t_letters, .int t_stage, .ref h_t_part, .int ((nI 2) * x_6), .ref h_t_matrix, .ref h_t_power, .ref h_t_product, .ref h_t_poly, .ref h_t_old, .ref h_t_step, .ref h_t_column, .ref h_t_moved, .ref h_t_traces, .ref h_t_signed, .ref h_t_plus, .ref h_t_minus, .ref h_t_walk], aI g h_t_now 29 a_t_now, aJ g h_t_matrix 324 r_16] H → va_D A [ob h_t 9 [.ref h_t_now, .ref h_t_read, .ref h_t_past, .int t_saved, .ref h_t_text, .int t_letters, .int t_stage, .ref h_t_part, .int ((nI 2) * x_6), .ref h_t_matrix, .ref h_t_power, .ref h_t_product, .ref h_t_poly, .ref h_t_old, .ref h_t_step, .ref h_t_column, .ref h_t_moved, .ref h_t_traces, .ref h_t_signed, .ref h_t_plus, .ref h_t_minus, .ref h_t_walk], aI g h_t_now 29 a_t_now, aJ g h_t_matrix 324 r_16] → va_S A s.heap H locs → lv_has ls 3 [(1, .int x_6), (0, .ref h_t)] → W p l e (rmv 2 45) s m args below meth c H locs 0 0 Q (F0 m 40 ls []) := by
    intro H locs ls hP hD hS hl
    refine lv_iconst (v := (nI 0)) hx hb dX9_laysVertices_40 (by decide) ?_
    refine lv_istore_n (lv' := [(2, .int (nI 0)), (1, .int x_6), (0, .ref h_t)]) hx hb dX9_laysVertices_41 rfl hl (by decide) rfl (fun ls hl => ?_)
    obtain ⟨r_42, hw, hM⟩ := bd_some hM
    obtain ⟨n, hn⟩ := wh_some hw
    clear hw
    have hE_42_0 : ∀ (H : Heap) (locs : List Loc) (ls : Array Slot), va_P (gD g) vwCl [ob h_t 9 [.ref h_t_now, .ref h_t_read, .ref h_t_past, .int t_saved, .ref h_t_text, .int t_letters, .int t_stage, .ref h_t_part, .int ((nI 2) * x_6), .ref h_t_matrix, .ref h_t_power, .ref h_t_product, .ref h_t_poly, .ref h_t_old, .ref h_t_step, .ref h_t_column, .ref h_t_moved, .ref h_t_traces, .ref h_t_signed, .ref h_t_plus, .ref h_t_minus, .ref h_t_walk], aI g h_t_now 29 a_t_now, aJ g h_t_matrix 324 r_42] H → va_D A [ob h_t 9 [.ref h_t_now, .ref h_t_read, .ref h_t_past, .int t_saved, .ref h_t_text, .int t_letters, .int t_stage, .ref h_t_part, .int ((nI 2) * x_6), .ref h_t_matrix, .ref h_t_power, .ref h_t_product, .ref h_t_poly, .ref h_t_old, .ref h_t_step, .ref h_t_column, .ref h_t_moved, .ref h_t_traces, .ref h_t_signed, .ref h_t_plus, .ref h_t_minus, .ref h_t_walk], aI g h_t_now 29 a_t_now, aJ g h_t_matrix 324 r_42] → va_S A s.heap H locs → lv_has ls 3 [(1, .int x_6), (0, .ref h_t)] → W p l e (rmv 2 45) s m args below meth c H locs 0 0 Q (F0 m 85 ls []) := by
      intro H locs ls hP hD hS hl
      refine lv_iconst (v := (nI 0)) hx hb dX9_laysVertices_85 (by decide) ?_
      refine lv_istore_n (lv' := [(2, .int (nI 0)), (1, .int x_6), (0, .ref h_t)]) hx hb dX9_laysVertices_86 rfl hl (by decide) rfl (fun ls hl => ?_)
      obtain ⟨r_87, hw, hM⟩ := bd_some hM
      obtain ⟨n, hn⟩ := wh_some hw
      clear hw
      have hE_87_0 : ∀ (H : Heap) (locs : List Loc) (ls : Array Slot), va_P (gD g) vwCl [ob h_t 9 [.ref h_t_now, .ref h_t_read, .ref h_t_past, .int t_saved, .ref h_t_text, .int t_letters, .int t_stage, .ref h_t_part, .int ((nI 2) * x_6), .ref h_t_matrix, .ref h_t_power, .ref h_t_product, .ref h_t_poly, .ref h_t_old, .ref h_t_step, .ref h_t_column, .ref h_t_moved, .ref h_t_traces, .ref h_t_signed, .ref h_t_plus, .ref h_t_minus, .ref h_t_walk], aI g h_t_now 29 a_t_now, aJ g h_t_matrix 324 r_87] H → va_D A [ob h_t 9 [.ref h_t_now, .ref h_t_read, .ref h_t_past, .int t_saved, .ref h_t_text, .int t_letters, .int t_stage, .ref h_t_part, .int ((nI 2) * x_6), .ref h_t_matrix, .ref h_t_power, .ref h_t_product, .ref h_t_poly, .ref h_t_old, .ref h_t_step, .ref h_t_column, .ref h_t_moved, .ref h_t_traces, .ref h_t_signed, .ref h_t_plus, .ref h_t_minus, .ref h_t_walk], aI g h_t_now 29 a_t_now, aJ g h_t_matrix 324 r_87] → va_S A s.heap H locs → lv_has ls 3 [] → W p l e (rmv 2 45) s m args below meth c H locs 0 0 Q (F0 m 133 ls []) := by
        intro H locs ls hP hD hS hl
        obtain rfl := Option.some.inj hM
        exact hfin 133 _ _ _ dX9_laysVertices_133 hP hD hS
      clear hM
      have hL_87 : ∀ (n : Nat) (z_87 : Int32 × (Nat → Int64)), it (b_X9_laysVertices_87 t_saved t_letters t_stage a_t_now x_6) n z_87 = some r_87 → ∀ (H : Heap) (locs : List Loc) (ls : Array Slot), va_P (gD g) vwCl [ob h_t 9 [.ref h_t_now, .ref h_t_read, .ref h_t_past, .int t_saved, .ref h_t_text, .int t_letters, .int t_stage, .ref h_t_part, .int ((nI 2) * x_6), .ref h_t_matrix, .ref h_t_power, .ref h_t_product, .ref h_t_poly, .ref h_t_old, .ref h_t_step, .ref h_t_column, .ref h_t_moved, .ref h_t_traces, .ref h_t_signed, .ref h_t_plus, .ref h_t_minus, .ref h_t_walk], aI g h_t_now 29 a_t_now, aJ g h_t_matrix 324 z_87.2] H → va_D A [ob h_t 9 [.ref h_t_now, .ref h_t_read, .ref h_t_past, .int t_saved, .ref h_t_text, .int t_letters, .int t_stage, .ref h_t_part, .int ((nI 2) * x_6), .ref h_t_matrix, .ref h_t_power, .ref h_t_product, .ref h_t_poly, .ref h_t_old, .ref h_t_step, .ref h_t_column, .ref h_t_moved, .ref h_t_traces, .ref h_t_signed, .ref h_t_plus, .ref h_t_minus, .ref h_t_walk], aI g h_t_now 29 a_t_now, aJ g h_t_matrix 324 z_87.2] → va_S A s.heap H locs → lv_has ls 3 [(2, .int z_87.1), (1, .int x_6), (0, .ref h_t)] → W p l e (rmv 2 45) s m args below meth c H locs 0 0 Q (F0 m 87 ls []) := by
        intro n
        induction n with
        | zero => intro z_87 hn; exact (it_zero hn).elim
        | succ n ih =>
          intro z_87 hn H locs ls hP hD hS hl
          obtain ⟨x, hM, hX⟩ := it_succ hn
          clear hn
          refine lv_iload_n hx hb dX9_laysVertices_87 rfl (lv_at hl 0 rfl) ?_
          refine lv_iload_n hx hb dX9_laysVertices_88 rfl (lv_at hl 1 rfl) ?_
          refine lv_icmp_ge (tgt := 133) hx hb dX9_laysVertices_89 (by decide) (fun c_89 => ?_) (fun c_89 => ?_)
          · have hM := if_t hM c_89
            obtain rfl := Option.some.inj hM
            obtain rfl : _ = r_87 := hX
            exact hE_87_0 _ _ _ hP hD hS (lv_sub hl [] rfl)
          · have hM := if_f hM c_89
            refine lv_aload_n hx hb dX9_laysVertices_92 rfl (lv_at hl 2 rfl) ?_
            refine w_get cx hP 0 9 9 rfl rfl (by decide) m_653 rfl rfl dX9_laysVertices_93 ?_
            refine lv_bipush (v := (nI 18)) hx hb dX9_laysVertices_96 (by decide) ?_
            refine lv_iload_n hx hb dX9_laysVertices_98 rfl (lv_at hl 0 rfl) ?_
            refine lv_imul hx hb dX9_laysVertices_99 ?_
            refine lv_iload_n hx hb dX9_laysVertices_100 rfl (lv_at hl 1 rfl) ?_
            refine lv_iadd hx hb dX9_laysVertices_101 ?_
            refine lv_iload_n hx hb dX9_laysVertices_102 rfl (lv_at hl 0 rfl) ?_
            refine lv_iadd hx hb dX9_laysVertices_103 ?_
            refine lv_lconst (v := (1 : Int64)) hx hb dX9_laysVertices_104 (by decide) ?_
            refine lv_aload_n hx hb dX9_laysVertices_105 rfl (lv_at hl 2 rfl) ?_
            refine lv_iload_n hx hb dX9_laysVertices_106 rfl (lv_at hl 0 rfl) ?_
            obtain ⟨q_107, hc_107, hM⟩ := bd_some hM
            refine w_callV cx hP hD hS hA (c_X9_degreeOf g l h_t h_t_now h_t_read h_t_past h_t_text h_t_part h_t_matrix h_t_power h_t_product h_t_poly h_t_old h_t_step h_t_column h_t_moved h_t_traces h_t_signed h_t_plus h_t_minus h_t_walk z_87.1 t_saved t_letters t_stage ((nI 2) * x_6) a_t_now hc_107) [0, 1] rfl (by decide) rfl [ob h_t 9 [.ref h_t_now, .ref h_t_read, .ref h_t_past, .int t_saved, .ref h_t_text, .int t_letters, .int t_stage, .ref h_t_part, .int ((nI 2) * x_6), .ref h_t_matrix, .ref h_t_power, .ref h_t_product, .ref h_t_poly, .ref h_t_old, .ref h_t_step, .ref h_t_column, .ref h_t_moved, .ref h_t_traces, .ref h_t_signed, .ref h_t_plus, .ref h_t_minus, .ref h_t_walk], aI g h_t_now 29 a_t_now, aJ g h_t_matrix 324 z_87.2] rfl 0 9 rfl rfl yq_X9_degreeOf rfl m_798 m_800 m_24 m_51 m_801 ⟨Nat.le_of_ble_eq_true rfl, Nat.le_of_ble_eq_true rfl⟩ rfl rfl hl.1 (Nat.le_of_ble_eq_true rfl) dX9_laysVertices_107 ⟨Nat.le_refl 0, Nat.le_refl 0⟩ rfl (fun H locs hP hD hS => ?_)
            refine lv_i2l (v := q_107.toInt64) hx hb dX9_laysVertices_110 rfl ?_
            refine lv_lsub hx hb dX9_laysVertices_111 ?_
            obtain ⟨g_112, hM⟩ := gd_some hM
            refine w_last cx hP hD hS 2 rfl g_112 dX9_laysVertices_112 [ob h_t 9 [.ref h_t_now, .ref h_t_read, .ref h_t_past, .int t_saved, .ref h_t_text, .int t_letters, .int t_stage, .ref h_t_part, .int ((nI 2) * x_6), .ref h_t_matrix, .ref h_t_power, .ref h_t_product, .ref h_t_poly, .ref h_t_old, .ref h_t_step, .ref h_t_column, .ref h_t_moved, .ref h_t_traces, .ref h_t_signed, .ref h_t_plus, .ref h_t_minus, .ref h_t_walk], aI g h_t_now 29 a_t_now, aJ g h_t_matrix 324 (vp_updL z_87.2 ((((nI 18) * z_87.1) + x_6) + z_87.1).toNatClampNeg ((1 : Int64) - q_107.toInt64))] rfl (fun H locs hP hD hS => ?_)
            refine lv_aload_n hx hb dX9_laysVertices_113 rfl (lv_at hl 2 rfl) ?_
            refine w_get cx hP 0 9 9 rfl rfl (by decide) m_653 rfl rfl dX9_laysVertices_114 ?_
            refine lv_bipush (v := (nI 18)) hx hb dX9_laysVertices_117 (by decide) ?_
            refine lv_iload_n hx hb dX9_laysVertices_119 rfl (lv_at hl 1 rfl) ?_
            refine lv_iload_n hx hb dX9_laysVertices_120 rfl (lv_at hl 0 rfl) ?_
            refine lv_iadd hx hb dX9_laysVertices_121 ?_
            refine lv_imul hx hb dX9_laysVertices_122 ?_
            refine lv_iload_n hx hb dX9_laysVertices_123 rfl (lv_at hl 0 rfl) ?_
            refine lv_iadd hx hb dX9_laysVertices_124 ?_
            refine lv_lconst (v := (1 : Int64)) hx hb dX9_laysVertices_125 (by decide) ?_
            obtain ⟨g_126, hM⟩ := gd_some hM
            refine w_last cx hP hD hS 2 rfl g_126 dX9_laysVertices_126 [ob h_t 9 [.ref h_t_now, .ref h_t_read, .ref h_t_past, .int t_saved, .ref h_t_text, .int t_letters, .int t_stage, .ref h_t_part, .int ((nI 2) * x_6), .ref h_t_matrix, .ref h_t_power, .ref h_t_product, .ref h_t_poly, .ref h_t_old, .ref h_t_step, .ref h_t_column, .ref h_t_moved, .ref h_t_traces, .ref h_t_signed, .ref h_t_plus, .ref h_t_minus, .ref h_t_walk], aI g h_t_now 29 a_t_now, aJ g h_t_matrix 324 (vp_updL (vp_updL z_87.2 ((((nI 18) * z_87.1) + x_6) + z_87.1).toNatClampNeg ((1 : Int64) - q_107.toInt64)) (((nI 18) * (x_6 + z_87.1)) + z_87.1).toNatClampNeg (1 : Int64))] rfl (fun H locs hP hD hS => ?_)
            refine lv_iinc (v := z_87.1 + (nI 1)) (lv' := [(2, .int (z_87.1 + (nI 1))), (1, .int x_6), (0, .ref h_t)]) hx hb dX9_laysVertices_127 hl (k := 0) rfl (congrArg (fun q => z_87.1 + q) (show Int32.ofInt (1) = (nI 1) by decide)) (by decide) rfl (fun ls hl => ?_)
            refine lv_goto (tgt := 87) hx hb dX9_laysVertices_130 (by decide) ?_
            obtain rfl := Option.some.inj hM
            exact ih _ hX _ _ _ hP hD hS (lv_sub hl [0, 1, 2] rfl)
      exact hL_87 n _ hn _ _ _ hP hD hS (lv_sub hl [0, 1, 2] rfl)
    clear hM
    have hL_42 : ∀ (n : Nat) (z_42 : Int32 × (Nat → Int64)), it (b_X9_laysVertices_42 t_saved t_letters t_stage a_t_now x_6) n z_42 = some r_42 → ∀ (H : Heap) (locs : List Loc) (ls : Array Slot), va_P (gD g) vwCl [ob h_t 9 [.ref h_t_now, .ref h_t_read, .ref h_t_past, .int t_saved, .ref h_t_text, .int t_letters, .int t_stage, .ref h_t_part, .int ((nI 2) * x_6), .ref h_t_matrix, .ref h_t_power, .ref h_t_product, .ref h_t_poly, .ref h_t_old, .ref h_t_step, .ref h_t_column, .ref h_t_moved, .ref h_t_traces, .ref h_t_signed, .ref h_t_plus, .ref h_t_minus, .ref h_t_walk], aI g h_t_now 29 a_t_now, aJ g h_t_matrix 324 z_42.2] H → va_D A [ob h_t 9 [.ref h_t_now, .ref h_t_read, .ref h_t_past, .int t_saved, .ref h_t_text, .int t_letters, .int t_stage, .ref h_t_part, .int ((nI 2) * x_6), .ref h_t_matrix, .ref h_t_power, .ref h_t_product, .ref h_t_poly, .ref h_t_old, .ref h_t_step, .ref h_t_column, .ref h_t_moved, .ref h_t_traces, .ref h_t_signed, .ref h_t_plus, .ref h_t_minus, .ref h_t_walk], aI g h_t_now 29 a_t_now, aJ g h_t_matrix 324 z_42.2] → va_S A s.heap H locs → lv_has ls 3 [(2, .int z_42.1), (1, .int x_6), (0, .ref h_t)] → W p l e (rmv 2 45) s m args below meth c H locs 0 0 Q (F0 m 42 ls []) := by
      intro n
      induction n with
      | zero => intro z_42 hn; exact (it_zero hn).elim
      | succ n ih =>
        intro z_42 hn H locs ls hP hD hS hl
        obtain ⟨x, hM, hX⟩ := it_succ hn
        clear hn
        refine lv_iload_n hx hb dX9_laysVertices_42 rfl (lv_at hl 0 rfl) ?_
        refine lv_iconst (v := (nI 2)) hx hb dX9_laysVertices_43 (by decide) ?_
        refine lv_aload_n hx hb dX9_laysVertices_44 rfl (lv_at hl 2 rfl) ?_
        refine w_get cx hP 0 9 0 rfl rfl (by decide) m_644 rfl rfl dX9_laysVertices_45 ?_
        refine lv_iconst (v := (nI 1)) hx hb dX9_laysVertices_48 (by decide) ?_
        obtain ⟨g_49, hM⟩ := gd_some hM
        refine w_iald cx hP 1 rfl g_49 dX9_laysVertices_49 ?_
        refine lv_imul hx hb dX9_laysVertices_50 ?_
        refine lv_icmp_ge (tgt := 85) hx hb dX9_laysVertices_51 (by decide) (fun c_51 => ?_) (fun c_51 => ?_)
        · have hM := if_t hM c_51
          obtain rfl := Option.some.inj hM
          obtain rfl : _ = r_42 := hX
          exact hE_42_0 _ _ _ hP hD hS (lv_sub hl [1, 2] rfl)
        · have hM := if_f hM c_51
          refine lv_aload_n hx hb dX9_laysVertices_54 rfl (lv_at hl 2 rfl) ?_
          refine w_get cx hP 0 9 9 rfl rfl (by decide) m_653 rfl rfl dX9_laysVertices_55 ?_
          refine lv_bipush (v := (nI 18)) hx hb dX9_laysVertices_58 (by decide) ?_
          refine lv_aload_n hx hb dX9_laysVertices_60 rfl (lv_at hl 2 rfl) ?_
          refine lv_iload_n hx hb dX9_laysVertices_61 rfl (lv_at hl 0 rfl) ?_
          refine lv_iconst (v := (nI 0)) hx hb dX9_laysVertices_62 (by decide) ?_
          obtain ⟨q_63, hc_63, hM⟩ := bd_some hM
          refine w_callV cx hP hD hS hA (c_X9_endOf g l h_t h_t_now h_t_read h_t_past h_t_text h_t_part h_t_matrix h_t_power h_t_product h_t_poly h_t_old h_t_step h_t_column h_t_moved h_t_traces h_t_signed h_t_plus h_t_minus h_t_walk z_42.1 (nI 0) t_saved t_letters t_stage ((nI 2) * x_6) a_t_now hc_63) [0, 1] rfl (by decide) rfl [ob h_t 9 [.ref h_t_now, .ref h_t_read, .ref h_t_past, .int t_saved, .ref h_t_text, .int t_letters, .int t_stage, .ref h_t_part, .int ((nI 2) * x_6), .ref h_t_matrix, .ref h_t_power, .ref h_t_product, .ref h_t_poly, .ref h_t_old, .ref h_t_step, .ref h_t_column, .ref h_t_moved, .ref h_t_traces, .ref h_t_signed, .ref h_t_plus, .ref h_t_minus, .ref h_t_walk], aI g h_t_now 29 a_t_now, aJ g h_t_matrix 324 z_42.2] rfl 0 9 rfl rfl yq_X9_endOf rfl m_782 m_784 m_22 m_51 m_785 ⟨Nat.le_of_ble_eq_true rfl, Nat.le_of_ble_eq_true rfl⟩ rfl rfl hl.1 (Nat.le_of_ble_eq_true rfl) dX9_laysVertices_63 ⟨Nat.le_refl 0, Nat.le_refl 0⟩ rfl (fun H locs hP hD hS => ?_)
          refine lv_imul hx hb dX9_laysVertices_66 ?_
          refine lv_aload_n hx hb dX9_laysVertices_67 rfl (lv_at hl 2 rfl) ?_
          refine lv_iload_n hx hb dX9_laysVertices_68 rfl (lv_at hl 0 rfl) ?_
          refine lv_iconst (v := (nI 1)) hx hb dX9_laysVertices_69 (by decide) ?_
          obtain ⟨q_70, hc_70, hM⟩ := bd_some hM
          refine w_callV cx hP hD hS hA (c_X9_endOf g l h_t h_t_now h_t_read h_t_past h_t_text h_t_part h_t_matrix h_t_power h_t_product h_t_poly h_t_old h_t_step h_t_column h_t_moved h_t_traces h_t_signed h_t_plus h_t_minus h_t_walk z_42.1 (nI 1) t_saved t_letters t_stage ((nI 2) * x_6) a_t_now hc_70) [0, 1] rfl (by decide) rfl [ob h_t 9 [.ref h_t_now, .ref h_t_read, .ref h_t_past, .int t_saved, .ref h_t_text, .int t_letters, .int t_stage, .ref h_t_part, .int ((nI 2) * x_6), .ref h_t_matrix, .ref h_t_power, .ref h_t_product, .ref h_t_poly, .ref h_t_old, .ref h_t_step, .ref h_t_column, .ref h_t_moved, .ref h_t_traces, .ref h_t_signed, .ref h_t_plus, .ref h_t_minus, .ref h_t_walk], aI g h_t_now 29 a_t_now, aJ g h_t_matrix 324 z_42.2] rfl 0 9 rfl rfl yq_X9_endOf rfl m_782 m_784 m_22 m_51 m_785 ⟨Nat.le_of_ble_eq_true rfl, Nat.le_of_ble_eq_true rfl⟩ rfl rfl hl.1 (Nat.le_of_ble_eq_true rfl) dX9_laysVertices_70 ⟨Nat.le_refl 0, Nat.le_refl 0⟩ rfl (fun H locs hP hD hS => ?_)
          refine lv_iadd hx hb dX9_laysVertices_73 ?_
          refine lv_dup2_11 hx hb dX9_laysVertices_74 rfl rfl ?_
          obtain ⟨g_75, hM⟩ := gd_some hM
          refine w_lald cx hP 2 rfl g_75 dX9_laysVertices_75 ?_
          refine lv_lconst (v := (1 : Int64)) hx hb dX9_laysVertices_76 (by decide) ?_
          refine lv_ladd hx hb dX9_laysVertices_77 ?_
          obtain ⟨g_78, hM⟩ := gd_some hM
          refine w_last cx hP hD hS 2 rfl g_78 dX9_laysVertices_78 [ob h_t 9 [.ref h_t_now, .ref h_t_read, .ref h_t_past, .int t_saved, .ref h_t_text, .int t_letters, .int t_stage, .ref h_t_part, .int ((nI 2) * x_6), .ref h_t_matrix, .ref h_t_power, .ref h_t_product, .ref h_t_poly, .ref h_t_old, .ref h_t_step, .ref h_t_column, .ref h_t_moved, .ref h_t_traces, .ref h_t_signed, .ref h_t_plus, .ref h_t_minus, .ref h_t_walk], aI g h_t_now 29 a_t_now, aJ g h_t_matrix 324 (vp_updL z_42.2 (((nI 18) * q_63) + q_70).toNatClampNeg ((z_42.2 (((nI 18) * q_63) + q_70).toNatClampNeg) + (1 : Int64)))] rfl (fun H locs hP hD hS => ?_)
          refine lv_iinc (v := z_42.1 + (nI 1)) (lv' := [(2, .int (z_42.1 + (nI 1))), (1, .int x_6), (0, .ref h_t)]) hx hb dX9_laysVertices_79 hl (k := 0) rfl (congrArg (fun q => z_42.1 + q) (show Int32.ofInt (1) = (nI 1) by decide)) (by decide) rfl (fun ls hl => ?_)
          refine lv_goto (tgt := 42) hx hb dX9_laysVertices_82 (by decide) ?_
          obtain rfl := Option.some.inj hM
          exact ih _ hX _ _ _ hP hD hS (lv_sub hl [0, 1, 2] rfl)
    exact hL_42 n _ hn _ _ _ hP hD hS (lv_sub hl [0, 1, 2] rfl)
  clear hM
  have hL_16 : ∀ (n : Nat) (z_16 : Int32 × (Nat → Int64)), it (b_X9_laysVertices_16 x_6) n z_16 = some r_16 → ∀ (H : Heap) (locs : List Loc) (ls : Array Slot), va_P (gD g) vwCl [ob h_t 9 [.ref h_t_now, .ref h_t_read, .ref h_t_past, .int t_saved, .ref h_t_text, .int t_letters, .int t_stage, .ref h_t_part, .int ((nI 2) * x_6), .ref h_t_matrix, .ref h_t_power, .ref h_t_product, .ref h_t_poly, .ref h_t_old, .ref h_t_step, .ref h_t_column, .ref h_t_moved, .ref h_t_traces, .ref h_t_signed, .ref h_t_plus, .ref h_t_minus, .ref h_t_walk], aI g h_t_now 29 a_t_now, aJ g h_t_matrix 324 z_16.2] H → va_D A [ob h_t 9 [.ref h_t_now, .ref h_t_read, .ref h_t_past, .int t_saved, .ref h_t_text, .int t_letters, .int t_stage, .ref h_t_part, .int ((nI 2) * x_6), .ref h_t_matrix, .ref h_t_power, .ref h_t_product, .ref h_t_poly, .ref h_t_old, .ref h_t_step, .ref h_t_column, .ref h_t_moved, .ref h_t_traces, .ref h_t_signed, .ref h_t_plus, .ref h_t_minus, .ref h_t_walk], aI g h_t_now 29 a_t_now, aJ g h_t_matrix 324 z_16.2] → va_S A s.heap H locs → lv_has ls 3 [(2, .int z_16.1), (1, .int x_6), (0, .ref h_t)] → W p l e (rmv 2 45) s m args below meth c H locs 0 0 Q (F0 m 16 ls []) := by
    intro n
    induction n with
    | zero => intro z_16 hn; exact (it_zero hn).elim
    | succ n ih =>
      intro z_16 hn H locs ls hP hD hS hl
      obtain ⟨x, hM, hX⟩ := it_succ hn
      clear hn
      refine lv_iload_n hx hb dX9_laysVertices_16 rfl (lv_at hl 0 rfl) ?_
      refine lv_bipush (v := (nI 18)) hx hb dX9_laysVertices_17 (by decide) ?_
      refine lv_aload_n hx hb dX9_laysVertices_19 rfl (lv_at hl 2 rfl) ?_
      refine w_get cx hP 0 9 8 rfl rfl (by decide) m_652 rfl rfl dX9_laysVertices_20 ?_
      refine lv_imul hx hb dX9_laysVertices_23 ?_
      refine lv_icmp_ge (tgt := 40) hx hb dX9_laysVertices_24 (by decide) (fun c_24 => ?_) (fun c_24 => ?_)
      · have hM := if_t hM c_24
        obtain rfl := Option.some.inj hM
        obtain rfl : _ = r_16 := hX
        exact hE_16_0 _ _ _ hP hD hS (lv_sub hl [1, 2] rfl)
      · have hM := if_f hM c_24
        refine lv_aload_n hx hb dX9_laysVertices_27 rfl (lv_at hl 2 rfl) ?_
        refine w_get cx hP 0 9 9 rfl rfl (by decide) m_653 rfl rfl dX9_laysVertices_28 ?_
        refine lv_iload_n hx hb dX9_laysVertices_31 rfl (lv_at hl 0 rfl) ?_
        refine lv_lconst (v := (0 : Int64)) hx hb dX9_laysVertices_32 (by decide) ?_
        obtain ⟨g_33, hM⟩ := gd_some hM
        refine w_last cx hP hD hS 2 rfl g_33 dX9_laysVertices_33 [ob h_t 9 [.ref h_t_now, .ref h_t_read, .ref h_t_past, .int t_saved, .ref h_t_text, .int t_letters, .int t_stage, .ref h_t_part, .int ((nI 2) * x_6), .ref h_t_matrix, .ref h_t_power, .ref h_t_product, .ref h_t_poly, .ref h_t_old, .ref h_t_step, .ref h_t_column, .ref h_t_moved, .ref h_t_traces, .ref h_t_signed, .ref h_t_plus, .ref h_t_minus, .ref h_t_walk], aI g h_t_now 29 a_t_now, aJ g h_t_matrix 324 (vp_updL z_16.2 z_16.1.toNatClampNeg (0 : Int64))] rfl (fun H locs hP hD hS => ?_)
        refine lv_iinc (v := z_16.1 + (nI 1)) (lv' := [(2, .int (z_16.1 + (nI 1))), (1, .int x_6), (0, .ref h_t)]) hx hb dX9_laysVertices_34 hl (k := 0) rfl (congrArg (fun q => z_16.1 + q) (show Int32.ofInt (1) = (nI 1) by decide)) (by decide) rfl (fun ls hl => ?_)
        refine lv_goto (tgt := 16) hx hb dX9_laysVertices_37 (by decide) ?_
        obtain rfl := Option.some.inj hM
        exact ih _ hX _ _ _ hP hD hS (lv_sub hl [0, 1, 2] rfl)
  exact hL_16 n _ hn _ _ _ hP hD hS (lv_sub hl [0, 1, 2] rfl)
noncomputable def b_X9_laysTrees_36 (t_saved : Int32) (t_letters : Int32) (t_stage : Int32) (a_t_now : Nat → Int32) : Int32 × (Nat → Int64) → Option ((Int32 × (Nat → Int64)) ⊕ ((Nat → Int64))) := fun z_36 =>
  gd (inb (nI 1) 29) (if ((nI 2) * (a_t_now (nI 1).toNatClampNeg)) ≤ z_36.1 then some (.inr z_36.2) else bd (f_X9_endOf z_36.1 (nI 0) t_saved t_letters t_stage ((a_t_now (nI 0).toNatClampNeg) - (nI 1)) a_t_now) (fun (q_51 : Int32) => bd (f_X9_endOf z_36.1 (nI 1) t_saved t_letters t_stage ((a_t_now (nI 0).toNatClampNeg) - (nI 1)) a_t_now) (fun (q_58 : Int32) => gd (inb (((nI 18) * q_51) + q_51) 324) (gd (inb (((nI 18) * q_51) + q_51) 324) (gd (inb (((nI 18) * q_51) + q_58) 324) (gd (inb (((nI 18) * q_51) + q_58) 324) (some (.inl (z_36.1 + (nI 1), vp_updL (vp_updL z_36.2 (((nI 18) * q_51) + q_51).toNatClampNeg ((z_36.2 (((nI 18) * q_51) + q_51).toNatClampNeg) + (1 : Int64))) (((nI 18) * q_51) + q_58).toNatClampNeg (((vp_updL z_36.2 (((nI 18) * q_51) + q_51).toNatClampNeg ((z_36.2 (((nI 18) * q_51) + q_51).toNatClampNeg) + (1 : Int64))) (((nI 18) * q_51) + q_58).toNatClampNeg) - (1 : Int64)))))))))))
noncomputable def b_X9_laysTrees_14 : Int32 × (Nat → Int64) → Option ((Int32 × (Nat → Int64)) ⊕ ((Nat → Int64))) := fun z_14 =>
  if (nI 324) ≤ z_14.1 then some (.inr z_14.2) else gd (inb z_14.1 324) (some (.inl (z_14.1 + (nI 1), vp_updL z_14.2 z_14.1.toNatClampNeg (0 : Int64))))
noncomputable def f_X9_laysTrees (t_saved : Int32) (t_letters : Int32) (t_stage : Int32) (t_size : Int32) (a_t_now : Nat → Int32) (a_t_matrix : Nat → Int64) : Option (Int32 × (Nat → Int64)) :=
  gd (inb (nI 0) 29) (bd (wh b_X9_laysTrees_14 ((nI 0), a_t_matrix)) (fun (r_14 : Nat → Int64) => bd (wh (b_X9_laysTrees_36 t_saved t_letters t_stage a_t_now) ((nI 0), r_14)) (fun (r_36 : Nat → Int64) => some (((a_t_now (nI 0).toNatClampNeg) - (nI 1)), r_36))))
theorem yq_X9_laysTrees : yq yX9_laysTrees 0 := by unfold yq; decide +kernel
set_option maxHeartbeats 4000000 in
set_option maxRecDepth 100000 in
theorem c_X9_laysTrees (g : GG) (l : Launch) (h_t : Nat) (h_t_now : Nat) (h_t_read : Nat) (h_t_past : Nat) (h_t_text : Nat) (h_t_part : Nat) (h_t_matrix : Nat) (h_t_power : Nat) (h_t_product : Nat) (h_t_poly : Nat) (h_t_old : Nat) (h_t_step : Nat) (h_t_column : Nat) (h_t_moved : Nat) (h_t_traces : Nat) (h_t_signed : Nat) (h_t_plus : Nat) (h_t_minus : Nat) (h_t_walk : Nat) (t_saved : Int32) (t_letters : Int32) (t_stage : Int32) (t_size : Int32) (a_t_now : Nat → Int32) (a_t_matrix : Nat → Int64) {R : Int32 × (Nat → Int64)} (hM : f_X9_laysTrees t_saved t_letters t_stage t_size a_t_now a_t_matrix = some R) : CT g l yX9_laysTrees cX9_laysTrees 4 none 1 22 [.ref h_t] [ob h_t 9 [.ref h_t_now, .ref h_t_read, .ref h_t_past, .int t_saved, .ref h_t_text, .int t_letters, .int t_stage, .ref h_t_part, .int t_size, .ref h_t_matrix, .ref h_t_power, .ref h_t_product, .ref h_t_poly, .ref h_t_old, .ref h_t_step, .ref h_t_column, .ref h_t_moved, .ref h_t_traces, .ref h_t_signed, .ref h_t_plus, .ref h_t_minus, .ref h_t_walk], aI g h_t_now 29 a_t_now, aJ g h_t_matrix 324 a_t_matrix] [ob h_t 9 [.ref h_t_now, .ref h_t_read, .ref h_t_past, .int t_saved, .ref h_t_text, .int t_letters, .int t_stage, .ref h_t_part, .int R.1, .ref h_t_matrix, .ref h_t_power, .ref h_t_product, .ref h_t_poly, .ref h_t_old, .ref h_t_step, .ref h_t_column, .ref h_t_moved, .ref h_t_traces, .ref h_t_signed, .ref h_t_plus, .ref h_t_minus, .ref h_t_walk], aI g h_t_now 29 a_t_now, aJ g h_t_matrix 324 R.2] none := by
  refine ct_v (by decide +kernel) (Nat.le_of_ble_eq_true rfl) ?_
  intro p e s m args below meth c Q A ls cx hP hD hA hl hfin
  obtain ⟨hx, hb, hml, hown, hts, hK⟩ := id cx
  have hl : lv_has ls 4 [(0, .ref h_t)] := hl
  have hS : va_S A s.heap s.heap [] := va_S.rf
  refine lv_aload_n hx hb dX9_laysTrees_0 rfl (lv_at hl 0 rfl) ?_
  refine lv_aload_n hx hb dX9_laysTrees_1 rfl (lv_at hl 0 rfl) ?_
  refine w_get cx hP 0 9 0 rfl rfl (by decide) m_644 rfl rfl dX9_laysTrees_2 ?_
  refine lv_iconst (v := (nI 0)) hx hb dX9_laysTrees_5 (by decide) ?_
  obtain ⟨g_6, hM⟩ := gd_some hM
  refine w_iald cx hP 1 rfl g_6 dX9_laysTrees_6 ?_
  refine lv_iconst (v := (nI 1)) hx hb dX9_laysTrees_7 (by decide) ?_
  refine lv_isub hx hb dX9_laysTrees_8 ?_
  refine w_put cx hP hD hS 0 9 8 rfl rfl (by decide) m_652 rfl rfl rfl (Nat.le_of_ble_eq_true rfl) dX9_laysTrees_9 [ob h_t 9 [.ref h_t_now, .ref h_t_read, .ref h_t_past, .int t_saved, .ref h_t_text, .int t_letters, .int t_stage, .ref h_t_part, .int ((a_t_now (nI 0).toNatClampNeg) - (nI 1)), .ref h_t_matrix, .ref h_t_power, .ref h_t_product, .ref h_t_poly, .ref h_t_old, .ref h_t_step, .ref h_t_column, .ref h_t_moved, .ref h_t_traces, .ref h_t_signed, .ref h_t_plus, .ref h_t_minus, .ref h_t_walk], aI g h_t_now 29 a_t_now, aJ g h_t_matrix 324 a_t_matrix] rfl (fun H locs hP hD hS => ?_)
  refine lv_iconst (v := (nI 0)) hx hb dX9_laysTrees_12 (by decide) ?_
  refine lv_istore_n (lv' := [(1, .int (nI 0)), (0, .ref h_t)]) hx hb dX9_laysTrees_13 rfl hl (by decide) rfl (fun ls hl => ?_)
  obtain ⟨r_14, hw, hM⟩ := bd_some hM
  obtain ⟨n, hn⟩ := wh_some hw
  clear hw
  have hE_14_0 : ∀ (H : Heap) (locs : List Loc) (ls : Array Slot), va_P (gD g) vwCl [ob h_t 9 [.ref h_t_now, .ref h_t_read, .ref h_t_past, .int t_saved, .ref h_t_text, .int t_letters, .int t_stage, .ref h_t_part, .int ((a_t_now (nI 0).toNatClampNeg) - (nI 1)), .ref h_t_matrix, .ref h_t_power, .ref h_t_product, .ref h_t_poly, .ref h_t_old, .ref h_t_step, .ref h_t_column, .ref h_t_moved, .ref h_t_traces, .ref h_t_signed, .ref h_t_plus, .ref h_t_minus, .ref h_t_walk], aI g h_t_now 29 a_t_now, aJ g h_t_matrix 324 r_14] H → va_D A [ob h_t 9 [.ref h_t_now, .ref h_t_read, .ref h_t_past, .int t_saved, .ref h_t_text, .int t_letters, .int t_stage, .ref h_t_part, .int ((a_t_now (nI 0).toNatClampNeg) - (nI 1)), .ref h_t_matrix, .ref h_t_power, .ref h_t_product, .ref h_t_poly, .ref h_t_old, .ref h_t_step, .ref h_t_column, .ref h_t_moved, .ref h_t_traces, .ref h_t_signed, .ref h_t_plus, .ref h_t_minus, .ref h_t_walk], aI g h_t_now 29 a_t_now, aJ g h_t_matrix 324 r_14] → va_S A s.heap H locs → lv_has ls 4 [(0, .ref h_t)] → W p l e (rmv 1 22) s m args below meth c H locs 0 0 Q (F0 m 34 ls []) := by
    intro H locs ls hP hD hS hl
    refine lv_iconst (v := (nI 0)) hx hb dX9_laysTrees_34 (by decide) ?_
    refine lv_istore_n (lv' := [(1, .int (nI 0)), (0, .ref h_t)]) hx hb dX9_laysTrees_35 rfl hl (by decide) rfl (fun ls hl => ?_)
    obtain ⟨r_36, hw, hM⟩ := bd_some hM
    obtain ⟨n, hn⟩ := wh_some hw
    clear hw
    have hE_36_0 : ∀ (H : Heap) (locs : List Loc) (ls : Array Slot), va_P (gD g) vwCl [ob h_t 9 [.ref h_t_now, .ref h_t_read, .ref h_t_past, .int t_saved, .ref h_t_text, .int t_letters, .int t_stage, .ref h_t_part, .int ((a_t_now (nI 0).toNatClampNeg) - (nI 1)), .ref h_t_matrix, .ref h_t_power, .ref h_t_product, .ref h_t_poly, .ref h_t_old, .ref h_t_step, .ref h_t_column, .ref h_t_moved, .ref h_t_traces, .ref h_t_signed, .ref h_t_plus, .ref h_t_minus, .ref h_t_walk], aI g h_t_now 29 a_t_now, aJ g h_t_matrix 324 r_36] H → va_D A [ob h_t 9 [.ref h_t_now, .ref h_t_read, .ref h_t_past, .int t_saved, .ref h_t_text, .int t_letters, .int t_stage, .ref h_t_part, .int ((a_t_now (nI 0).toNatClampNeg) - (nI 1)), .ref h_t_matrix, .ref h_t_power, .ref h_t_product, .ref h_t_poly, .ref h_t_old, .ref h_t_step, .ref h_t_column, .ref h_t_moved, .ref h_t_traces, .ref h_t_signed, .ref h_t_plus, .ref h_t_minus, .ref h_t_walk], aI g h_t_now 29 a_t_now, aJ g h_t_matrix 324 r_36] → va_S A s.heap H locs → lv_has ls 4 [] → W p l e (rmv 1 22) s m args below meth c H locs 0 0 Q (F0 m 98 ls []) := by
      intro H locs ls hP hD hS hl
      obtain rfl := Option.some.inj hM
      exact hfin 98 _ _ _ dX9_laysTrees_98 hP hD hS
    clear hM
    have hL_36 : ∀ (n : Nat) (z_36 : Int32 × (Nat → Int64)), it (b_X9_laysTrees_36 t_saved t_letters t_stage a_t_now) n z_36 = some r_36 → ∀ (H : Heap) (locs : List Loc) (ls : Array Slot), va_P (gD g) vwCl [ob h_t 9 [.ref h_t_now, .ref h_t_read, .ref h_t_past, .int t_saved, .ref h_t_text, .int t_letters, .int t_stage, .ref h_t_part, .int ((a_t_now (nI 0).toNatClampNeg) - (nI 1)), .ref h_t_matrix, .ref h_t_power, .ref h_t_product, .ref h_t_poly, .ref h_t_old, .ref h_t_step, .ref h_t_column, .ref h_t_moved, .ref h_t_traces, .ref h_t_signed, .ref h_t_plus, .ref h_t_minus, .ref h_t_walk], aI g h_t_now 29 a_t_now, aJ g h_t_matrix 324 z_36.2] H → va_D A [ob h_t 9 [.ref h_t_now, .ref h_t_read, .ref h_t_past, .int t_saved, .ref h_t_text, .int t_letters, .int t_stage, .ref h_t_part, .int ((a_t_now (nI 0).toNatClampNeg) - (nI 1)), .ref h_t_matrix, .ref h_t_power, .ref h_t_product, .ref h_t_poly, .ref h_t_old, .ref h_t_step, .ref h_t_column, .ref h_t_moved, .ref h_t_traces, .ref h_t_signed, .ref h_t_plus, .ref h_t_minus, .ref h_t_walk], aI g h_t_now 29 a_t_now, aJ g h_t_matrix 324 z_36.2] → va_S A s.heap H locs → lv_has ls 4 [(1, .int z_36.1), (0, .ref h_t)] → W p l e (rmv 1 22) s m args below meth c H locs 0 0 Q (F0 m 36 ls []) := by
      intro n
      induction n with
      | zero => intro z_36 hn; exact (it_zero hn).elim
      | succ n ih =>
        intro z_36 hn H locs ls hP hD hS hl
        obtain ⟨x, hM, hX⟩ := it_succ hn
        clear hn
        refine lv_iload_n hx hb dX9_laysTrees_36 rfl (lv_at hl 0 rfl) ?_
        refine lv_iconst (v := (nI 2)) hx hb dX9_laysTrees_37 (by decide) ?_
        refine lv_aload_n hx hb dX9_laysTrees_38 rfl (lv_at hl 1 rfl) ?_
        refine w_get cx hP 0 9 0 rfl rfl (by decide) m_644 rfl rfl dX9_laysTrees_39 ?_
        refine lv_iconst (v := (nI 1)) hx hb dX9_laysTrees_42 (by decide) ?_
        obtain ⟨g_43, hM⟩ := gd_some hM
        refine w_iald cx hP 1 rfl g_43 dX9_laysTrees_43 ?_
        refine lv_imul hx hb dX9_laysTrees_44 ?_
        refine lv_icmp_ge (tgt := 98) hx hb dX9_laysTrees_45 (by decide) (fun c_45 => ?_) (fun c_45 => ?_)
        · have hM := if_t hM c_45
          obtain rfl := Option.some.inj hM
          obtain rfl : _ = r_36 := hX
          exact hE_36_0 _ _ _ hP hD hS (lv_sub hl [] rfl)
        · have hM := if_f hM c_45
          refine lv_aload_n hx hb dX9_laysTrees_48 rfl (lv_at hl 1 rfl) ?_
          refine lv_iload_n hx hb dX9_laysTrees_49 rfl (lv_at hl 0 rfl) ?_
          refine lv_iconst (v := (nI 0)) hx hb dX9_laysTrees_50 (by decide) ?_
          obtain ⟨q_51, hc_51, hM⟩ := bd_some hM
          refine w_callV cx hP hD hS hA (c_X9_endOf g l h_t h_t_now h_t_read h_t_past h_t_text h_t_part h_t_matrix h_t_power h_t_product h_t_poly h_t_old h_t_step h_t_column h_t_moved h_t_traces h_t_signed h_t_plus h_t_minus h_t_walk z_36.1 (nI 0) t_saved t_letters t_stage ((a_t_now (nI 0).toNatClampNeg) - (nI 1)) a_t_now hc_51) [0, 1] rfl (by decide) rfl [ob h_t 9 [.ref h_t_now, .ref h_t_read, .ref h_t_past, .int t_saved, .ref h_t_text, .int t_letters, .int t_stage, .ref h_t_part, .int ((a_t_now (nI 0).toNatClampNeg) - (nI 1)), .ref h_t_matrix, .ref h_t_power, .ref h_t_product, .ref h_t_poly, .ref h_t_old, .ref h_t_step, .ref h_t_column, .ref h_t_moved, .ref h_t_traces, .ref h_t_signed, .ref h_t_plus, .ref h_t_minus, .ref h_t_walk], aI g h_t_now 29 a_t_now, aJ g h_t_matrix 324 z_36.2] rfl 0 9 rfl rfl yq_X9_endOf rfl m_782 m_784 m_22 m_51 m_785 ⟨Nat.le_of_ble_eq_true rfl, Nat.le_of_ble_eq_true rfl⟩ rfl rfl hl.1 (Nat.le_of_ble_eq_true rfl) dX9_laysTrees_51 ⟨Nat.le_refl 0, Nat.le_refl 0⟩ rfl (fun H locs hP hD hS => ?_)
          refine lv_istore_n (lv' := [(2, .int q_51), (1, .int z_36.1), (0, .ref h_t)]) hx hb dX9_laysTrees_54 rfl hl (by decide) rfl (fun ls hl => ?_)
          refine lv_aload_n hx hb dX9_laysTrees_55 rfl (lv_at hl 2 rfl) ?_
          refine lv_iload_n hx hb dX9_laysTrees_56 rfl (lv_at hl 1 rfl) ?_
          refine lv_iconst (v := (nI 1)) hx hb dX9_laysTrees_57 (by decide) ?_
          obtain ⟨q_58, hc_58, hM⟩ := bd_some hM
          refine w_callV cx hP hD hS hA (c_X9_endOf g l h_t h_t_now h_t_read h_t_past h_t_text h_t_part h_t_matrix h_t_power h_t_product h_t_poly h_t_old h_t_step h_t_column h_t_moved h_t_traces h_t_signed h_t_plus h_t_minus h_t_walk z_36.1 (nI 1) t_saved t_letters t_stage ((a_t_now (nI 0).toNatClampNeg) - (nI 1)) a_t_now hc_58) [0, 1] rfl (by decide) rfl [ob h_t 9 [.ref h_t_now, .ref h_t_read, .ref h_t_past, .int t_saved, .ref h_t_text, .int t_letters, .int t_stage, .ref h_t_part, .int ((a_t_now (nI 0).toNatClampNeg) - (nI 1)), .ref h_t_matrix, .ref h_t_power, .ref h_t_product, .ref h_t_poly, .ref h_t_old, .ref h_t_step, .ref h_t_column, .ref h_t_moved, .ref h_t_traces, .ref h_t_signed, .ref h_t_plus, .ref h_t_minus, .ref h_t_walk], aI g h_t_now 29 a_t_now, aJ g h_t_matrix 324 z_36.2] rfl 0 9 rfl rfl yq_X9_endOf rfl m_782 m_784 m_22 m_51 m_785 ⟨Nat.le_of_ble_eq_true rfl, Nat.le_of_ble_eq_true rfl⟩ rfl rfl hl.1 (Nat.le_of_ble_eq_true rfl) dX9_laysTrees_58 ⟨Nat.le_refl 0, Nat.le_refl 0⟩ rfl (fun H locs hP hD hS => ?_)
          refine lv_istore_n (lv' := [(3, .int q_58), (2, .int q_51), (1, .int z_36.1), (0, .ref h_t)]) hx hb dX9_laysTrees_61 rfl hl (by decide) rfl (fun ls hl => ?_)
          refine lv_aload_n hx hb dX9_laysTrees_62 rfl (lv_at hl 3 rfl) ?_
          refine w_get cx hP 0 9 9 rfl rfl (by decide) m_653 rfl rfl dX9_laysTrees_63 ?_
          refine lv_bipush (v := (nI 18)) hx hb dX9_laysTrees_66 (by decide) ?_
          refine lv_iload_n hx hb dX9_laysTrees_68 rfl (lv_at hl 1 rfl) ?_
          refine lv_imul hx hb dX9_laysTrees_69 ?_
          refine lv_iload_n hx hb dX9_laysTrees_70 rfl (lv_at hl 1 rfl) ?_
          refine lv_iadd hx hb dX9_laysTrees_71 ?_
          refine lv_dup2_11 hx hb dX9_laysTrees_72 rfl rfl ?_
          obtain ⟨g_73, hM⟩ := gd_some hM
          refine w_lald cx hP 2 rfl g_73 dX9_laysTrees_73 ?_
          refine lv_lconst (v := (1 : Int64)) hx hb dX9_laysTrees_74 (by decide) ?_
          refine lv_ladd hx hb dX9_laysTrees_75 ?_
          obtain ⟨g_76, hM⟩ := gd_some hM
          refine w_last cx hP hD hS 2 rfl g_76 dX9_laysTrees_76 [ob h_t 9 [.ref h_t_now, .ref h_t_read, .ref h_t_past, .int t_saved, .ref h_t_text, .int t_letters, .int t_stage, .ref h_t_part, .int ((a_t_now (nI 0).toNatClampNeg) - (nI 1)), .ref h_t_matrix, .ref h_t_power, .ref h_t_product, .ref h_t_poly, .ref h_t_old, .ref h_t_step, .ref h_t_column, .ref h_t_moved, .ref h_t_traces, .ref h_t_signed, .ref h_t_plus, .ref h_t_minus, .ref h_t_walk], aI g h_t_now 29 a_t_now, aJ g h_t_matrix 324 (vp_updL z_36.2 (((nI 18) * q_51) + q_51).toNatClampNeg ((z_36.2 (((nI 18) * q_51) + q_51).toNatClampNeg) + (1 : Int64)))] rfl (fun H locs hP hD hS => ?_)
          refine lv_aload_n hx hb dX9_laysTrees_77 rfl (lv_at hl 3 rfl) ?_
          refine w_get cx hP 0 9 9 rfl rfl (by decide) m_653 rfl rfl dX9_laysTrees_78 ?_
          refine lv_bipush (v := (nI 18)) hx hb dX9_laysTrees_81 (by decide) ?_
          refine lv_iload_n hx hb dX9_laysTrees_83 rfl (lv_at hl 1 rfl) ?_
          refine lv_imul hx hb dX9_laysTrees_84 ?_
          refine lv_iload_n hx hb dX9_laysTrees_85 rfl (lv_at hl 0 rfl) ?_
          refine lv_iadd hx hb dX9_laysTrees_86 ?_
          refine lv_dup2_11 hx hb dX9_laysTrees_87 rfl rfl ?_
          obtain ⟨g_88, hM⟩ := gd_some hM
          refine w_lald cx hP 2 rfl g_88 dX9_laysTrees_88 ?_
          refine lv_lconst (v := (1 : Int64)) hx hb dX9_laysTrees_89 (by decide) ?_
          refine lv_lsub hx hb dX9_laysTrees_90 ?_
          obtain ⟨g_91, hM⟩ := gd_some hM
          refine w_last cx hP hD hS 2 rfl g_91 dX9_laysTrees_91 [ob h_t 9 [.ref h_t_now, .ref h_t_read, .ref h_t_past, .int t_saved, .ref h_t_text, .int t_letters, .int t_stage, .ref h_t_part, .int ((a_t_now (nI 0).toNatClampNeg) - (nI 1)), .ref h_t_matrix, .ref h_t_power, .ref h_t_product, .ref h_t_poly, .ref h_t_old, .ref h_t_step, .ref h_t_column, .ref h_t_moved, .ref h_t_traces, .ref h_t_signed, .ref h_t_plus, .ref h_t_minus, .ref h_t_walk], aI g h_t_now 29 a_t_now, aJ g h_t_matrix 324 (vp_updL (vp_updL z_36.2 (((nI 18) * q_51) + q_51).toNatClampNeg ((z_36.2 (((nI 18) * q_51) + q_51).toNatClampNeg) + (1 : Int64))) (((nI 18) * q_51) + q_58).toNatClampNeg (((vp_updL z_36.2 (((nI 18) * q_51) + q_51).toNatClampNeg ((z_36.2 (((nI 18) * q_51) + q_51).toNatClampNeg) + (1 : Int64))) (((nI 18) * q_51) + q_58).toNatClampNeg) - (1 : Int64)))] rfl (fun H locs hP hD hS => ?_)
          refine lv_iinc (v := z_36.1 + (nI 1)) (lv' := [(1, .int (z_36.1 + (nI 1))), (3, .int q_58), (2, .int q_51), (0, .ref h_t)]) hx hb dX9_laysTrees_92 hl (k := 2) rfl (congrArg (fun q => z_36.1 + q) (show Int32.ofInt (1) = (nI 1) by decide)) (by decide) rfl (fun ls hl => ?_)
          refine lv_goto (tgt := 36) hx hb dX9_laysTrees_95 (by decide) ?_
          obtain rfl := Option.some.inj hM
          exact ih _ hX _ _ _ hP hD hS (lv_sub hl [0, 3] rfl)
    exact hL_36 n _ hn _ _ _ hP hD hS (lv_sub hl [0, 1] rfl)
  clear hM
  have hL_14 : ∀ (n : Nat) (z_14 : Int32 × (Nat → Int64)), it b_X9_laysTrees_14 n z_14 = some r_14 → ∀ (H : Heap) (locs : List Loc) (ls : Array Slot), va_P (gD g) vwCl [ob h_t 9 [.ref h_t_now, .ref h_t_read, .ref h_t_past, .int t_saved, .ref h_t_text, .int t_letters, .int t_stage, .ref h_t_part, .int ((a_t_now (nI 0).toNatClampNeg) - (nI 1)), .ref h_t_matrix, .ref h_t_power, .ref h_t_product, .ref h_t_poly, .ref h_t_old, .ref h_t_step, .ref h_t_column, .ref h_t_moved, .ref h_t_traces, .ref h_t_signed, .ref h_t_plus, .ref h_t_minus, .ref h_t_walk], aI g h_t_now 29 a_t_now, aJ g h_t_matrix 324 z_14.2] H → va_D A [ob h_t 9 [.ref h_t_now, .ref h_t_read, .ref h_t_past, .int t_saved, .ref h_t_text, .int t_letters, .int t_stage, .ref h_t_part, .int ((a_t_now (nI 0).toNatClampNeg) - (nI 1)), .ref h_t_matrix, .ref h_t_power, .ref h_t_product, .ref h_t_poly, .ref h_t_old, .ref h_t_step, .ref h_t_column, .ref h_t_moved, .ref h_t_traces, .ref h_t_signed, .ref h_t_plus, .ref h_t_minus, .ref h_t_walk], aI g h_t_now 29 a_t_now, aJ g h_t_matrix 324 z_14.2] → va_S A s.heap H locs → lv_has ls 4 [(1, .int z_14.1), (0, .ref h_t)] → W p l e (rmv 1 22) s m args below meth c H locs 0 0 Q (F0 m 14 ls []) := by
    intro n
    induction n with
    | zero => intro z_14 hn; exact (it_zero hn).elim
    | succ n ih =>
      intro z_14 hn H locs ls hP hD hS hl
      obtain ⟨x, hM, hX⟩ := it_succ hn
      clear hn
      refine lv_iload_n hx hb dX9_laysTrees_14 rfl (lv_at hl 0 rfl) ?_
      refine lv_sipush (v := (nI 324)) hx hb dX9_laysTrees_15 (by decide) ?_
      refine lv_icmp_ge (tgt := 34) hx hb dX9_laysTrees_18 (by decide) (fun c_18 => ?_) (fun c_18 => ?_)
      · have hM := if_t hM c_18
        obtain rfl := Option.some.inj hM
        obtain rfl : _ = r_14 := hX
        exact hE_14_0 _ _ _ hP hD hS (lv_sub hl [1] rfl)
      · have hM := if_f hM c_18
        refine lv_aload_n hx hb dX9_laysTrees_21 rfl (lv_at hl 1 rfl) ?_
        refine w_get cx hP 0 9 9 rfl rfl (by decide) m_653 rfl rfl dX9_laysTrees_22 ?_
        refine lv_iload_n hx hb dX9_laysTrees_25 rfl (lv_at hl 0 rfl) ?_
        refine lv_lconst (v := (0 : Int64)) hx hb dX9_laysTrees_26 (by decide) ?_
        obtain ⟨g_27, hM⟩ := gd_some hM
        refine w_last cx hP hD hS 2 rfl g_27 dX9_laysTrees_27 [ob h_t 9 [.ref h_t_now, .ref h_t_read, .ref h_t_past, .int t_saved, .ref h_t_text, .int t_letters, .int t_stage, .ref h_t_part, .int ((a_t_now (nI 0).toNatClampNeg) - (nI 1)), .ref h_t_matrix, .ref h_t_power, .ref h_t_product, .ref h_t_poly, .ref h_t_old, .ref h_t_step, .ref h_t_column, .ref h_t_moved, .ref h_t_traces, .ref h_t_signed, .ref h_t_plus, .ref h_t_minus, .ref h_t_walk], aI g h_t_now 29 a_t_now, aJ g h_t_matrix 324 (vp_updL z_14.2 z_14.1.toNatClampNeg (0 : Int64))] rfl (fun H locs hP hD hS => ?_)
        refine lv_iinc (v := z_14.1 + (nI 1)) (lv' := [(1, .int (z_14.1 + (nI 1))), (0, .ref h_t)]) hx hb dX9_laysTrees_28 hl (k := 0) rfl (congrArg (fun q => z_14.1 + q) (show Int32.ofInt (1) = (nI 1) by decide)) (by decide) rfl (fun ls hl => ?_)
        refine lv_goto (tgt := 14) hx hb dX9_laysTrees_31 (by decide) ?_
        obtain rfl := Option.some.inj hM
        exact ih _ hX _ _ _ hP hD hS (lv_sub hl [0, 1] rfl)
  exact hL_14 n _ hn _ _ _ hP hD hS (lv_sub hl [0, 1] rfl)
noncomputable def b_X9_clears_2 (n_p1 : Nat) : Int32 × (Nat → Int64) → Option ((Int32 × (Nat → Int64)) ⊕ ((Nat → Int64))) := fun z_2 =>
  if (nI 19) ≤ z_2.1 then some (.inr z_2.2) else gd (inb z_2.1 n_p1) (some (.inl (z_2.1 + (nI 1), vp_updL z_2.2 z_2.1.toNatClampNeg (0 : Int64))))
noncomputable def f_X9_clears (n_p1 : Nat) (a_p1 : Nat → Int64) : Option (Nat → Int64) :=
  bd (wh (b_X9_clears_2 n_p1) ((nI 0), a_p1)) (fun (r_2 : Nat → Int64) => some r_2)
theorem yq_X9_clears : yq yX9_clears 1 := by unfold yq; decide +kernel
set_option maxHeartbeats 4000000 in
set_option maxRecDepth 100000 in
theorem c_X9_clears (g : GG) (l : Launch) (h_p1 : Nat) (h_t : Nat) (n_p1 : Nat) (a_p1 : Nat → Int64) {R : Nat → Int64} (hM : f_X9_clears n_p1 a_p1 = some R) : CT g l yX9_clears cX9_clears 3 none 0 0 [.ref h_t, .ref h_p1] [aJ g h_p1 n_p1 a_p1] [aJ g h_p1 n_p1 R] none := by
  refine ct_v (by decide +kernel) (Nat.le_of_ble_eq_true rfl) ?_
  intro p e s m args below meth c Q A ls cx hP hD hA hl hfin
  obtain ⟨hx, hb, hml, hown, hts, hK⟩ := id cx
  have hl : lv_has ls 3 [(0, .ref h_t), (1, .ref h_p1)] := hl
  have hS : va_S A s.heap s.heap [] := va_S.rf
  refine lv_iconst (v := (nI 0)) hx hb dX9_clears_0 (by decide) ?_
  refine lv_istore_n (lv' := [(2, .int (nI 0)), (0, .ref h_t), (1, .ref h_p1)]) hx hb dX9_clears_1 rfl hl (by decide) rfl (fun ls hl => ?_)
  obtain ⟨r_2, hw, hM⟩ := bd_some hM
  obtain ⟨n, hn⟩ := wh_some hw
  clear hw
  have hE_2_0 : ∀ (H : Heap) (locs : List Loc) (ls : Array Slot), va_P (gD g) vwCl [aJ g h_p1 n_p1 r_2] H → va_D A [aJ g h_p1 n_p1 r_2] → va_S A s.heap H locs → lv_has ls 3 [] → W p l e (rmv 0 0) s m args below meth c H locs 0 0 Q (F0 m 18 ls []) := by
    intro H locs ls hP hD hS hl
    obtain rfl := Option.some.inj hM
    exact hfin 18 _ _ _ dX9_clears_18 hP hD hS
  clear hM
  have hL_2 : ∀ (n : Nat) (z_2 : Int32 × (Nat → Int64)), it (b_X9_clears_2 n_p1) n z_2 = some r_2 → ∀ (H : Heap) (locs : List Loc) (ls : Array Slot), va_P (gD g) vwCl [aJ g h_p1 n_p1 z_2.2] H → va_D A [aJ g h_p1 n_p1 z_2.2] → va_S A s.heap H locs → lv_has ls 3 [(2, .int z_2.1), (1, .ref h_p1)] → W p l e (rmv 0 0) s m args below meth c H locs 0 0 Q (F0 m 2 ls []) := by
    intro n
    induction n with
    | zero => intro z_2 hn; exact (it_zero hn).elim
    | succ n ih =>
      intro z_2 hn H locs ls hP hD hS hl
      obtain ⟨x, hM, hX⟩ := it_succ hn
      clear hn
      refine lv_iload_n hx hb dX9_clears_2 rfl (lv_at hl 0 rfl) ?_
      refine lv_bipush (v := (nI 19)) hx hb dX9_clears_3 (by decide) ?_
      refine lv_icmp_ge (tgt := 18) hx hb dX9_clears_5 (by decide) (fun c_5 => ?_) (fun c_5 => ?_)
      · have hM := if_t hM c_5
        obtain rfl := Option.some.inj hM
        obtain rfl : _ = r_2 := hX
        exact hE_2_0 _ _ _ hP hD hS (lv_sub hl [] rfl)
      · have hM := if_f hM c_5
        refine lv_aload_n hx hb dX9_clears_8 rfl (lv_at hl 1 rfl) ?_
        refine lv_iload_n hx hb dX9_clears_9 rfl (lv_at hl 0 rfl) ?_
        refine lv_lconst (v := (0 : Int64)) hx hb dX9_clears_10 (by decide) ?_
        obtain ⟨g_11, hM⟩ := gd_some hM
        refine w_last cx hP hD hS 0 rfl g_11 dX9_clears_11 [aJ g h_p1 n_p1 (vp_updL z_2.2 z_2.1.toNatClampNeg (0 : Int64))] rfl (fun H locs hP hD hS => ?_)
        refine lv_iinc (v := z_2.1 + (nI 1)) (lv' := [(2, .int (z_2.1 + (nI 1))), (1, .ref h_p1)]) hx hb dX9_clears_12 hl (k := 0) rfl (congrArg (fun q => z_2.1 + q) (show Int32.ofInt (1) = (nI 1) by decide)) (by decide) rfl (fun ls hl => ?_)
        refine lv_goto (tgt := 2) hx hb dX9_clears_15 (by decide) ?_
        obtain rfl := Option.some.inj hM
        exact ih _ hX _ _ _ hP hD hS (lv_sub hl [0, 1] rfl)
  exact hL_2 n _ hn _ _ _ hP hD hS (lv_sub hl [0, 2] rfl)
noncomputable def b_X9_laysStep_184 (p1 : Int32) (r_115 : Nat → Int64) : Int32 × (Nat → Int64) → Option ((Int32 × (Nat → Int64)) ⊕ ((Nat → Int64))) := fun z_184 =>
  if p1 ≤ z_184.1 then some (.inr z_184.2) else gd (inb z_184.1 18) (gd (inb z_184.1 18) (some (.inl (z_184.1 + (nI 1), vp_updL z_184.2 z_184.1.toNatClampNeg (r_115 z_184.1.toNatClampNeg)))))
noncomputable def b_X9_laysStep_132 (p1 : Int32) (a_t_matrix : Nat → Int64) (z_57 : Int32 × (Nat → Int64) × (Nat → Int64) × (Nat → Int64)) (z_115 : Int32 × (Nat → Int64)) : Int32 × (Nat → Int64) → Option ((Int32 × (Nat → Int64)) ⊕ ((Nat → Int64))) := fun z_132 =>
  if p1 ≤ z_132.1 then some (.inr z_132.2) else gd (inb z_115.1 18) (gd (inb (((nI 18) * z_115.1) + z_132.1) 324) (gd (inb z_132.1 18) (gd (inb z_115.1 18) (some (.inl (z_132.1 + (nI 1), vp_updL z_132.2 z_115.1.toNatClampNeg ((z_132.2 z_115.1.toNatClampNeg) + ((a_t_matrix (((nI 18) * z_115.1) + z_132.1).toNatClampNeg) * (z_57.2.2.1 z_132.1.toNatClampNeg)))))))))
noncomputable def b_X9_laysStep_115 (p1 : Int32) (a_t_matrix : Nat → Int64) (z_57 : Int32 × (Nat → Int64) × (Nat → Int64) × (Nat → Int64)) : Int32 × (Nat → Int64) → Option ((Int32 × (Nat → Int64)) ⊕ ((Nat → Int64))) := fun z_115 =>
  if p1 ≤ z_115.1 then some (.inr z_115.2) else gd (inb z_115.1 18) (bd (wh (b_X9_laysStep_132 p1 a_t_matrix z_57 z_115) ((nI 0), vp_updL z_115.2 z_115.1.toNatClampNeg (0 : Int64))) (fun (r_132 : Nat → Int64) => some (.inl (z_115.1 + (nI 1), r_132))))
noncomputable def b_X9_laysStep_67 (p1 : Int32) (a_t_matrix : Nat → Int64) (z_57 : Int32 × (Nat → Int64) × (Nat → Int64) × (Nat → Int64)) : Int32 × Int64 → Option ((Int32 × Int64) ⊕ ((Int64))) := fun z_67 =>
  if p1 ≤ z_67.1 then some (.inr z_67.2) else gd (inb (((nI 18) * p1) + z_67.1) 324) (gd (inb z_67.1 18) (nm (z_67.2 + ((a_t_matrix (((nI 18) * p1) + z_67.1).toNatClampNeg) * (z_57.2.2.1 z_67.1.toNatClampNeg))) (fun (x_95 : Int64) => some (.inl (z_67.1 + (nI 1), x_95)))))
noncomputable def b_X9_laysStep_57 (p1 : Int32) (a_t_matrix : Nat → Int64) : Int32 × (Nat → Int64) × (Nat → Int64) × (Nat → Int64) → Option ((Int32 × (Nat → Int64) × (Nat → Int64) × (Nat → Int64)) ⊕ (((Nat → Int64) × (Nat → Int64) × (Nat → Int64)))) := fun z_57 =>
  if p1 ≤ z_57.1 then some (.inr (z_57.2.1, z_57.2.2.1, z_57.2.2.2)) else bd (wh (b_X9_laysStep_67 p1 a_t_matrix z_57) ((nI 0), (0 : Int64))) (fun (r_67 : Int64) => gd (inb (z_57.1 + (nI 2)) 20) (bd (wh (b_X9_laysStep_115 p1 a_t_matrix z_57) ((nI 0), z_57.2.2.2)) (fun (r_115 : Nat → Int64) => bd (wh (b_X9_laysStep_184 p1 r_115) ((nI 0), z_57.2.2.1)) (fun (r_184 : Nat → Int64) => some (.inl (z_57.1 + (nI 1), vp_updL z_57.2.1 (z_57.1 + (nI 2)).toNatClampNeg (-r_67), r_184, r_115))))))
noncomputable def b_X9_laysStep_27 (p1 : Int32) (a_t_matrix : Nat → Int64) : Int32 × (Nat → Int64) → Option ((Int32 × (Nat → Int64)) ⊕ ((Nat → Int64))) := fun z_27 =>
  if p1 ≤ z_27.1 then some (.inr z_27.2) else gd (inb (((nI 18) * z_27.1) + p1) 324) (gd (inb z_27.1 18) (some (.inl (z_27.1 + (nI 1), vp_updL z_27.2 z_27.1.toNatClampNeg (a_t_matrix (((nI 18) * z_27.1) + p1).toNatClampNeg)))))
noncomputable def f_X9_laysStep (p1 : Int32) (t_saved : Int32) (t_letters : Int32) (t_stage : Int32) (t_size : Int32) (a_t_matrix : Nat → Int64) (a_t_step : Nat → Int64) (a_t_column : Nat → Int64) (a_t_moved : Nat → Int64) : Option ((Nat → Int64) × (Nat → Int64) × (Nat → Int64)) :=
  gd (inb (nI 0) 20) (gd (inb (((nI 18) * p1) + p1) 324) (gd (inb (nI 1) 20) (bd (wh (b_X9_laysStep_27 p1 a_t_matrix) ((nI 0), a_t_column)) (fun (r_27 : Nat → Int64) => bd (wh (b_X9_laysStep_57 p1 a_t_matrix) ((nI 0), vp_updL (vp_updL a_t_step (nI 0).toNatClampNeg (1 : Int64)) (nI 1).toNatClampNeg (-(a_t_matrix (((nI 18) * p1) + p1).toNatClampNeg)), r_27, a_t_moved)) (fun (r_57 : (Nat → Int64) × (Nat → Int64) × (Nat → Int64)) => some (r_57.1, r_57.2.1, r_57.2.2))))))
theorem yq_X9_laysStep : yq yX9_laysStep 1 := by unfold yq; decide +kernel
set_option maxHeartbeats 4000000 in
set_option maxRecDepth 100000 in
theorem c_X9_laysStep (g : GG) (l : Launch) (h_t : Nat) (h_t_now : Nat) (h_t_read : Nat) (h_t_past : Nat) (h_t_text : Nat) (h_t_part : Nat) (h_t_matrix : Nat) (h_t_power : Nat) (h_t_product : Nat) (h_t_poly : Nat) (h_t_old : Nat) (h_t_step : Nat) (h_t_column : Nat) (h_t_moved : Nat) (h_t_traces : Nat) (h_t_signed : Nat) (h_t_plus : Nat) (h_t_minus : Nat) (h_t_walk : Nat) (p1 : Int32) (t_saved : Int32) (t_letters : Int32) (t_stage : Int32) (t_size : Int32) (a_t_matrix : Nat → Int64) (a_t_step : Nat → Int64) (a_t_column : Nat → Int64) (a_t_moved : Nat → Int64) {R : (Nat → Int64) × (Nat → Int64) × (Nat → Int64)} (hM : f_X9_laysStep p1 t_saved t_letters t_stage t_size a_t_matrix a_t_step a_t_column a_t_moved = some R) : CT g l yX9_laysStep cX9_laysStep 7 none 0 0 [.ref h_t, .int p1] [ob h_t 9 [.ref h_t_now, .ref h_t_read, .ref h_t_past, .int t_saved, .ref h_t_text, .int t_letters, .int t_stage, .ref h_t_part, .int t_size, .ref h_t_matrix, .ref h_t_power, .ref h_t_product, .ref h_t_poly, .ref h_t_old, .ref h_t_step, .ref h_t_column, .ref h_t_moved, .ref h_t_traces, .ref h_t_signed, .ref h_t_plus, .ref h_t_minus, .ref h_t_walk], aJ g h_t_matrix 324 a_t_matrix, aJ g h_t_step 20 a_t_step, aJ g h_t_column 18 a_t_column, aJ g h_t_moved 18 a_t_moved] [ob h_t 9 [.ref h_t_now, .ref h_t_read, .ref h_t_past, .int t_saved, .ref h_t_text, .int t_letters, .int t_stage, .ref h_t_part, .int t_size, .ref h_t_matrix, .ref h_t_power, .ref h_t_product, .ref h_t_poly, .ref h_t_old, .ref h_t_step, .ref h_t_column, .ref h_t_moved, .ref h_t_traces, .ref h_t_signed, .ref h_t_plus, .ref h_t_minus, .ref h_t_walk], aJ g h_t_matrix 324 a_t_matrix, aJ g h_t_step 20 R.1, aJ g h_t_column 18 R.2.1, aJ g h_t_moved 18 R.2.2] none := by
  refine ct_v (by decide +kernel) (Nat.le_of_ble_eq_true rfl) ?_
  intro p e s m args below meth c Q A ls cx hP hD hA hl hfin
  obtain ⟨hx, hb, hml, hown, hts, hK⟩ := id cx
  have hl : lv_has ls 7 [(0, .ref h_t), (1, .int p1)] := hl
  have hS : va_S A s.heap s.heap [] := va_S.rf
  refine lv_aload_n hx hb dX9_laysStep_0 rfl (lv_at hl 0 rfl) ?_
  refine w_get cx hP 0 9 14 rfl rfl (by decide) m_658 rfl rfl dX9_laysStep_1 ?_
  refine lv_iconst (v := (nI 0)) hx hb dX9_laysStep_4 (by decide) ?_
  refine lv_lconst (v := (1 : Int64)) hx hb dX9_laysStep_5 (by decide) ?_
  obtain ⟨g_6, hM⟩ := gd_some hM
  refine w_last cx hP hD hS 2 rfl g_6 dX9_laysStep_6 [ob h_t 9 [.ref h_t_now, .ref h_t_read, .ref h_t_past, .int t_saved, .ref h_t_text, .int t_letters, .int t_stage, .ref h_t_part, .int t_size, .ref h_t_matrix, .ref h_t_power, .ref h_t_product, .ref h_t_poly, .ref h_t_old, .ref h_t_step, .ref h_t_column, .ref h_t_moved, .ref h_t_traces, .ref h_t_signed, .ref h_t_plus, .ref h_t_minus, .ref h_t_walk], aJ g h_t_matrix 324 a_t_matrix, aJ g h_t_step 20 (vp_updL a_t_step (nI 0).toNatClampNeg (1 : Int64)), aJ g h_t_column 18 a_t_column, aJ g h_t_moved 18 a_t_moved] rfl (fun H locs hP hD hS => ?_)
  refine lv_aload_n hx hb dX9_laysStep_7 rfl (lv_at hl 0 rfl) ?_
  refine w_get cx hP 0 9 14 rfl rfl (by decide) m_658 rfl rfl dX9_laysStep_8 ?_
  refine lv_iconst (v := (nI 1)) hx hb dX9_laysStep_11 (by decide) ?_
  refine lv_aload_n hx hb dX9_laysStep_12 rfl (lv_at hl 0 rfl) ?_
  refine w_get cx hP 0 9 9 rfl rfl (by decide) m_653 rfl rfl dX9_laysStep_13 ?_
  refine lv_bipush (v := (nI 18)) hx hb dX9_laysStep_16 (by decide) ?_
  refine lv_iload_n hx hb dX9_laysStep_18 rfl (lv_at hl 1 rfl) ?_
  refine lv_imul hx hb dX9_laysStep_19 ?_
  refine lv_iload_n hx hb dX9_laysStep_20 rfl (lv_at hl 1 rfl) ?_
  refine lv_iadd hx hb dX9_laysStep_21 ?_
  obtain ⟨g_22, hM⟩ := gd_some hM
  refine w_lald cx hP 1 rfl g_22 dX9_laysStep_22 ?_
  refine lv_lneg hx hb dX9_laysStep_23 ?_
  obtain ⟨g_24, hM⟩ := gd_some hM
  refine w_last cx hP hD hS 2 rfl g_24 dX9_laysStep_24 [ob h_t 9 [.ref h_t_now, .ref h_t_read, .ref h_t_past, .int t_saved, .ref h_t_text, .int t_letters, .int t_stage, .ref h_t_part, .int t_size, .ref h_t_matrix, .ref h_t_power, .ref h_t_product, .ref h_t_poly, .ref h_t_old, .ref h_t_step, .ref h_t_column, .ref h_t_moved, .ref h_t_traces, .ref h_t_signed, .ref h_t_plus, .ref h_t_minus, .ref h_t_walk], aJ g h_t_matrix 324 a_t_matrix, aJ g h_t_step 20 (vp_updL (vp_updL a_t_step (nI 0).toNatClampNeg (1 : Int64)) (nI 1).toNatClampNeg (-(a_t_matrix (((nI 18) * p1) + p1).toNatClampNeg))), aJ g h_t_column 18 a_t_column, aJ g h_t_moved 18 a_t_moved] rfl (fun H locs hP hD hS => ?_)
  refine lv_iconst (v := (nI 0)) hx hb dX9_laysStep_25 (by decide) ?_
  refine lv_istore_n (lv' := [(2, .int (nI 0)), (0, .ref h_t), (1, .int p1)]) hx hb dX9_laysStep_26 rfl hl (by decide) rfl (fun ls hl => ?_)
  obtain ⟨r_27, hw, hM⟩ := bd_some hM
  obtain ⟨n, hn⟩ := wh_some hw
  clear hw
  have hE_27_0 : ∀ (H : Heap) (locs : List Loc) (ls : Array Slot), va_P (gD g) vwCl [ob h_t 9 [.ref h_t_now, .ref h_t_read, .ref h_t_past, .int t_saved, .ref h_t_text, .int t_letters, .int t_stage, .ref h_t_part, .int t_size, .ref h_t_matrix, .ref h_t_power, .ref h_t_product, .ref h_t_poly, .ref h_t_old, .ref h_t_step, .ref h_t_column, .ref h_t_moved, .ref h_t_traces, .ref h_t_signed, .ref h_t_plus, .ref h_t_minus, .ref h_t_walk], aJ g h_t_matrix 324 a_t_matrix, aJ g h_t_step 20 (vp_updL (vp_updL a_t_step (nI 0).toNatClampNeg (1 : Int64)) (nI 1).toNatClampNeg (-(a_t_matrix (((nI 18) * p1) + p1).toNatClampNeg))), aJ g h_t_column 18 r_27, aJ g h_t_moved 18 a_t_moved] H → va_D A [ob h_t 9 [.ref h_t_now, .ref h_t_read, .ref h_t_past, .int t_saved, .ref h_t_text, .int t_letters, .int t_stage, .ref h_t_part, .int t_size, .ref h_t_matrix, .ref h_t_power, .ref h_t_product, .ref h_t_poly, .ref h_t_old, .ref h_t_step, .ref h_t_column, .ref h_t_moved, .ref h_t_traces, .ref h_t_signed, .ref h_t_plus, .ref h_t_minus, .ref h_t_walk], aJ g h_t_matrix 324 a_t_matrix, aJ g h_t_step 20 (vp_updL (vp_updL a_t_step (nI 0).toNatClampNeg (1 : Int64)) (nI 1).toNatClampNeg (-(a_t_matrix (((nI 18) * p1) + p1).toNatClampNeg))), aJ g h_t_column 18 r_27, aJ g h_t_moved 18 a_t_moved] → va_S A s.heap H locs → lv_has ls 7 [(0, .ref h_t), (1, .int p1)] → W p l e (rmv 0 0) s m args below meth c H locs 0 0 Q (F0 m 55 ls []) := by
    intro H locs ls hP hD hS hl
    refine lv_iconst (v := (nI 0)) hx hb dX9_laysStep_55 (by decide) ?_
    refine lv_istore_n (lv' := [(2, .int (nI 0)), (0, .ref h_t), (1, .int p1)]) hx hb dX9_laysStep_56 rfl hl (by decide) rfl (fun ls hl => ?_)
    obtain ⟨r_57, hw, hM⟩ := bd_some hM
    obtain ⟨n, hn⟩ := wh_some hw
    clear hw
    have hE_57_0 : ∀ (H : Heap) (locs : List Loc) (ls : Array Slot), va_P (gD g) vwCl [ob h_t 9 [.ref h_t_now, .ref h_t_read, .ref h_t_past, .int t_saved, .ref h_t_text, .int t_letters, .int t_stage, .ref h_t_part, .int t_size, .ref h_t_matrix, .ref h_t_power, .ref h_t_product, .ref h_t_poly, .ref h_t_old, .ref h_t_step, .ref h_t_column, .ref h_t_moved, .ref h_t_traces, .ref h_t_signed, .ref h_t_plus, .ref h_t_minus, .ref h_t_walk], aJ g h_t_matrix 324 a_t_matrix, aJ g h_t_step 20 r_57.1, aJ g h_t_column 18 r_57.2.1, aJ g h_t_moved 18 r_57.2.2] H → va_D A [ob h_t 9 [.ref h_t_now, .ref h_t_read, .ref h_t_past, .int t_saved, .ref h_t_text, .int t_letters, .int t_stage, .ref h_t_part, .int t_size, .ref h_t_matrix, .ref h_t_power, .ref h_t_product, .ref h_t_poly, .ref h_t_old, .ref h_t_step, .ref h_t_column, .ref h_t_moved, .ref h_t_traces, .ref h_t_signed, .ref h_t_plus, .ref h_t_minus, .ref h_t_walk], aJ g h_t_matrix 324 a_t_matrix, aJ g h_t_step 20 r_57.1, aJ g h_t_column 18 r_57.2.1, aJ g h_t_moved 18 r_57.2.2] → va_S A s.heap H locs → lv_has ls 7 [] → W p l e (rmv 0 0) s m args below meth c H locs 0 0 Q (F0 m 216 ls []) := by
      intro H locs ls hP hD hS hl
      obtain rfl := Option.some.inj hM
      exact hfin 216 _ _ _ dX9_laysStep_216 hP hD hS
    clear hM
    have hL_57 : ∀ (n : Nat) (z_57 : Int32 × (Nat → Int64) × (Nat → Int64) × (Nat → Int64)), it (b_X9_laysStep_57 p1 a_t_matrix) n z_57 = some r_57 → ∀ (H : Heap) (locs : List Loc) (ls : Array Slot), va_P (gD g) vwCl [ob h_t 9 [.ref h_t_now, .ref h_t_read, .ref h_t_past, .int t_saved, .ref h_t_text, .int t_letters, .int t_stage, .ref h_t_part, .int t_size, .ref h_t_matrix, .ref h_t_power, .ref h_t_product, .ref h_t_poly, .ref h_t_old, .ref h_t_step, .ref h_t_column, .ref h_t_moved, .ref h_t_traces, .ref h_t_signed, .ref h_t_plus, .ref h_t_minus, .ref h_t_walk], aJ g h_t_matrix 324 a_t_matrix, aJ g h_t_step 20 z_57.2.1, aJ g h_t_column 18 z_57.2.2.1, aJ g h_t_moved 18 z_57.2.2.2] H → va_D A [ob h_t 9 [.ref h_t_now, .ref h_t_read, .ref h_t_past, .int t_saved, .ref h_t_text, .int t_letters, .int t_stage, .ref h_t_part, .int t_size, .ref h_t_matrix, .ref h_t_power, .ref h_t_product, .ref h_t_poly, .ref h_t_old, .ref h_t_step, .ref h_t_column, .ref h_t_moved, .ref h_t_traces, .ref h_t_signed, .ref h_t_plus, .ref h_t_minus, .ref h_t_walk], aJ g h_t_matrix 324 a_t_matrix, aJ g h_t_step 20 z_57.2.1, aJ g h_t_column 18 z_57.2.2.1, aJ g h_t_moved 18 z_57.2.2.2] → va_S A s.heap H locs → lv_has ls 7 [(2, .int z_57.1), (0, .ref h_t), (1, .int p1)] → W p l e (rmv 0 0) s m args below meth c H locs 0 0 Q (F0 m 57 ls []) := by
      intro n
      induction n with
      | zero => intro z_57 hn; exact (it_zero hn).elim
      | succ n ih =>
        intro z_57 hn H locs ls hP hD hS hl
        obtain ⟨x, hM, hX⟩ := it_succ hn
        clear hn
        refine lv_iload_n hx hb dX9_laysStep_57 rfl (lv_at hl 0 rfl) ?_
        refine lv_iload_n hx hb dX9_laysStep_58 rfl (lv_at hl 2 rfl) ?_
        refine lv_icmp_ge (tgt := 216) hx hb dX9_laysStep_59 (by decide) (fun c_59 => ?_) (fun c_59 => ?_)
        · have hM := if_t hM c_59
          obtain rfl := Option.some.inj hM
          obtain rfl : _ = r_57 := hX
          exact hE_57_0 _ _ _ hP hD hS (lv_sub hl [] rfl)
        · have hM := if_f hM c_59
          refine lv_lconst (v := (0 : Int64)) hx hb dX9_laysStep_62 (by decide) ?_
          refine lv_lstore_n (lv' := [(3, .long (0 : Int64)), (2, .int z_57.1), (0, .ref h_t), (1, .int p1)]) hx hb dX9_laysStep_63 rfl hl (by decide) rfl (fun ls hl => ?_)
          refine lv_iconst (v := (nI 0)) hx hb dX9_laysStep_64 (by decide) ?_
          refine lv_istore (lv' := [(5, .int (nI 0)), (3, .long (0 : Int64)), (2, .int z_57.1), (0, .ref h_t), (1, .int p1)]) hx hb dX9_laysStep_65 hl (by decide) rfl (fun ls hl => ?_)
          obtain ⟨r_67, hw, hM⟩ := bd_some hM
          obtain ⟨n, hn⟩ := wh_some hw
          clear hw
          have hE_67_0 : ∀ (H : Heap) (locs : List Loc) (ls : Array Slot), va_P (gD g) vwCl [ob h_t 9 [.ref h_t_now, .ref h_t_read, .ref h_t_past, .int t_saved, .ref h_t_text, .int t_letters, .int t_stage, .ref h_t_part, .int t_size, .ref h_t_matrix, .ref h_t_power, .ref h_t_product, .ref h_t_poly, .ref h_t_old, .ref h_t_step, .ref h_t_column, .ref h_t_moved, .ref h_t_traces, .ref h_t_signed, .ref h_t_plus, .ref h_t_minus, .ref h_t_walk], aJ g h_t_matrix 324 a_t_matrix, aJ g h_t_step 20 z_57.2.1, aJ g h_t_column 18 z_57.2.2.1, aJ g h_t_moved 18 z_57.2.2.2] H → va_D A [ob h_t 9 [.ref h_t_now, .ref h_t_read, .ref h_t_past, .int t_saved, .ref h_t_text, .int t_letters, .int t_stage, .ref h_t_part, .int t_size, .ref h_t_matrix, .ref h_t_power, .ref h_t_product, .ref h_t_poly, .ref h_t_old, .ref h_t_step, .ref h_t_column, .ref h_t_moved, .ref h_t_traces, .ref h_t_signed, .ref h_t_plus, .ref h_t_minus, .ref h_t_walk], aJ g h_t_matrix 324 a_t_matrix, aJ g h_t_step 20 z_57.2.1, aJ g h_t_column 18 z_57.2.2.1, aJ g h_t_moved 18 z_57.2.2.2] → va_S A s.heap H locs → lv_has ls 7 [(3, .long r_67), (2, .int z_57.1), (0, .ref h_t), (1, .int p1)] → W p l e (rmv 0 0) s m args below meth c H locs 0 0 Q (F0 m 102 ls []) := by
            intro H locs ls hP hD hS hl
            refine lv_aload_n hx hb dX9_laysStep_102 rfl (lv_at hl 2 rfl) ?_
            refine w_get cx hP 0 9 14 rfl rfl (by decide) m_658 rfl rfl dX9_laysStep_103 ?_
            refine lv_iload_n hx hb dX9_laysStep_106 rfl (lv_at hl 1 rfl) ?_
            refine lv_iconst (v := (nI 2)) hx hb dX9_laysStep_107 (by decide) ?_
            refine lv_iadd hx hb dX9_laysStep_108 ?_
            refine lv_lload_n hx hb dX9_laysStep_109 rfl (lv_at hl 0 rfl) ?_
            refine lv_lneg hx hb dX9_laysStep_110 ?_
            obtain ⟨g_111, hM⟩ := gd_some hM
            refine w_last cx hP hD hS 2 rfl g_111 dX9_laysStep_111 [ob h_t 9 [.ref h_t_now, .ref h_t_read, .ref h_t_past, .int t_saved, .ref h_t_text, .int t_letters, .int t_stage, .ref h_t_part, .int t_size, .ref h_t_matrix, .ref h_t_power, .ref h_t_product, .ref h_t_poly, .ref h_t_old, .ref h_t_step, .ref h_t_column, .ref h_t_moved, .ref h_t_traces, .ref h_t_signed, .ref h_t_plus, .ref h_t_minus, .ref h_t_walk], aJ g h_t_matrix 324 a_t_matrix, aJ g h_t_step 20 (vp_updL z_57.2.1 (z_57.1 + (nI 2)).toNatClampNeg (-r_67)), aJ g h_t_column 18 z_57.2.2.1, aJ g h_t_moved 18 z_57.2.2.2] rfl (fun H locs hP hD hS => ?_)
            refine lv_iconst (v := (nI 0)) hx hb dX9_laysStep_112 (by decide) ?_
            refine lv_istore (lv' := [(5, .int (nI 0)), (3, .long r_67), (2, .int z_57.1), (0, .ref h_t), (1, .int p1)]) hx hb dX9_laysStep_113 hl (by decide) rfl (fun ls hl => ?_)
            obtain ⟨r_115, hw, hM⟩ := bd_some hM
            obtain ⟨n, hn⟩ := wh_some hw
            clear hw
            have hE_115_0 : ∀ (H : Heap) (locs : List Loc) (ls : Array Slot), va_P (gD g) vwCl [ob h_t 9 [.ref h_t_now, .ref h_t_read, .ref h_t_past, .int t_saved, .ref h_t_text, .int t_letters, .int t_stage, .ref h_t_part, .int t_size, .ref h_t_matrix, .ref h_t_power, .ref h_t_product, .ref h_t_poly, .ref h_t_old, .ref h_t_step, .ref h_t_column, .ref h_t_moved, .ref h_t_traces, .ref h_t_signed, .ref h_t_plus, .ref h_t_minus, .ref h_t_walk], aJ g h_t_matrix 324 a_t_matrix, aJ g h_t_step 20 (vp_updL z_57.2.1 (z_57.1 + (nI 2)).toNatClampNeg (-r_67)), aJ g h_t_column 18 z_57.2.2.1, aJ g h_t_moved 18 r_115] H → va_D A [ob h_t 9 [.ref h_t_now, .ref h_t_read, .ref h_t_past, .int t_saved, .ref h_t_text, .int t_letters, .int t_stage, .ref h_t_part, .int t_size, .ref h_t_matrix, .ref h_t_power, .ref h_t_product, .ref h_t_poly, .ref h_t_old, .ref h_t_step, .ref h_t_column, .ref h_t_moved, .ref h_t_traces, .ref h_t_signed, .ref h_t_plus, .ref h_t_minus, .ref h_t_walk], aJ g h_t_matrix 324 a_t_matrix, aJ g h_t_step 20 (vp_updL z_57.2.1 (z_57.1 + (nI 2)).toNatClampNeg (-r_67)), aJ g h_t_column 18 z_57.2.2.1, aJ g h_t_moved 18 r_115] → va_S A s.heap H locs → lv_has ls 7 [(2, .int z_57.1), (0, .ref h_t), (1, .int p1)] → W p l e (rmv 0 0) s m args below meth c H locs 0 0 Q (F0 m 181 ls []) := by
              intro H locs ls hP hD hS hl
              refine lv_iconst (v := (nI 0)) hx hb dX9_laysStep_181 (by decide) ?_
              refine lv_istore (lv' := [(5, .int (nI 0)), (2, .int z_57.1), (0, .ref h_t), (1, .int p1)]) hx hb dX9_laysStep_182 hl (by decide) rfl (fun ls hl => ?_)
              obtain ⟨r_184, hw, hM⟩ := bd_some hM
              obtain ⟨n, hn⟩ := wh_some hw
              clear hw
              have hE_184_0 : ∀ (H : Heap) (locs : List Loc) (ls : Array Slot), va_P (gD g) vwCl [ob h_t 9 [.ref h_t_now, .ref h_t_read, .ref h_t_past, .int t_saved, .ref h_t_text, .int t_letters, .int t_stage, .ref h_t_part, .int t_size, .ref h_t_matrix, .ref h_t_power, .ref h_t_product, .ref h_t_poly, .ref h_t_old, .ref h_t_step, .ref h_t_column, .ref h_t_moved, .ref h_t_traces, .ref h_t_signed, .ref h_t_plus, .ref h_t_minus, .ref h_t_walk], aJ g h_t_matrix 324 a_t_matrix, aJ g h_t_step 20 (vp_updL z_57.2.1 (z_57.1 + (nI 2)).toNatClampNeg (-r_67)), aJ g h_t_column 18 r_184, aJ g h_t_moved 18 r_115] H → va_D A [ob h_t 9 [.ref h_t_now, .ref h_t_read, .ref h_t_past, .int t_saved, .ref h_t_text, .int t_letters, .int t_stage, .ref h_t_part, .int t_size, .ref h_t_matrix, .ref h_t_power, .ref h_t_product, .ref h_t_poly, .ref h_t_old, .ref h_t_step, .ref h_t_column, .ref h_t_moved, .ref h_t_traces, .ref h_t_signed, .ref h_t_plus, .ref h_t_minus, .ref h_t_walk], aJ g h_t_matrix 324 a_t_matrix, aJ g h_t_step 20 (vp_updL z_57.2.1 (z_57.1 + (nI 2)).toNatClampNeg (-r_67)), aJ g h_t_column 18 r_184, aJ g h_t_moved 18 r_115] → va_S A s.heap H locs → lv_has ls 7 [(2, .int z_57.1), (0, .ref h_t), (1, .int p1)] → W p l e (rmv 0 0) s m args below meth c H locs 0 0 Q (F0 m 210 ls []) := by
                intro H locs ls hP hD hS hl
                refine lv_iinc (v := z_57.1 + (nI 1)) (lv' := [(2, .int (z_57.1 + (nI 1))), (0, .ref h_t), (1, .int p1)]) hx hb dX9_laysStep_210 hl (k := 0) rfl (congrArg (fun q => z_57.1 + q) (show Int32.ofInt (1) = (nI 1) by decide)) (by decide) rfl (fun ls hl => ?_)
                refine lv_goto (tgt := 57) hx hb dX9_laysStep_213 (by decide) ?_
                obtain rfl := Option.some.inj hM
                exact ih _ hX _ _ _ hP hD hS (lv_sub hl [0, 1, 2] rfl)
              clear hM
              have hL_184 : ∀ (n : Nat) (z_184 : Int32 × (Nat → Int64)), it (b_X9_laysStep_184 p1 r_115) n z_184 = some r_184 → ∀ (H : Heap) (locs : List Loc) (ls : Array Slot), va_P (gD g) vwCl [ob h_t 9 [.ref h_t_now, .ref h_t_read, .ref h_t_past, .int t_saved, .ref h_t_text, .int t_letters, .int t_stage, .ref h_t_part, .int t_size, .ref h_t_matrix, .ref h_t_power, .ref h_t_product, .ref h_t_poly, .ref h_t_old, .ref h_t_step, .ref h_t_column, .ref h_t_moved, .ref h_t_traces, .ref h_t_signed, .ref h_t_plus, .ref h_t_minus, .ref h_t_walk], aJ g h_t_matrix 324 a_t_matrix, aJ g h_t_step 20 (vp_updL z_57.2.1 (z_57.1 + (nI 2)).toNatClampNeg (-r_67)), aJ g h_t_column 18 z_184.2, aJ g h_t_moved 18 r_115] H → va_D A [ob h_t 9 [.ref h_t_now, .ref h_t_read, .ref h_t_past, .int t_saved, .ref h_t_text, .int t_letters, .int t_stage, .ref h_t_part, .int t_size, .ref h_t_matrix, .ref h_t_power, .ref h_t_product, .ref h_t_poly, .ref h_t_old, .ref h_t_step, .ref h_t_column, .ref h_t_moved, .ref h_t_traces, .ref h_t_signed, .ref h_t_plus, .ref h_t_minus, .ref h_t_walk], aJ g h_t_matrix 324 a_t_matrix, aJ g h_t_step 20 (vp_updL z_57.2.1 (z_57.1 + (nI 2)).toNatClampNeg (-r_67)), aJ g h_t_column 18 z_184.2, aJ g h_t_moved 18 r_115] → va_S A s.heap H locs → lv_has ls 7 [(5, .int z_184.1), (2, .int z_57.1), (0, .ref h_t), (1, .int p1)] → W p l e (rmv 0 0) s m args below meth c H locs 0 0 Q (F0 m 184 ls []) := by
                intro n
                induction n with
                | zero => intro z_184 hn; exact (it_zero hn).elim
                | succ n ih =>
                  intro z_184 hn H locs ls hP hD hS hl
                  obtain ⟨x, hM, hX⟩ := it_succ hn
                  clear hn
                  refine lv_iload hx hb dX9_laysStep_184 (lv_at hl 0 rfl) ?_
                  refine lv_iload_n hx hb dX9_laysStep_186 rfl (lv_at hl 3 rfl) ?_
                  refine lv_icmp_ge (tgt := 210) hx hb dX9_laysStep_187 (by decide) (fun c_187 => ?_) (fun c_187 => ?_)
                  · have hM := if_t hM c_187
                    obtain rfl := Option.some.inj hM
                    obtain rfl : _ = r_184 := hX
                    exact hE_184_0 _ _ _ hP hD hS (lv_sub hl [1, 2, 3] rfl)
                  · have hM := if_f hM c_187
                    refine lv_aload_n hx hb dX9_laysStep_190 rfl (lv_at hl 2 rfl) ?_
                    refine w_get cx hP 0 9 15 rfl rfl (by decide) m_659 rfl rfl dX9_laysStep_191 ?_
                    refine lv_iload hx hb dX9_laysStep_194 (lv_at hl 0 rfl) ?_
                    refine lv_aload_n hx hb dX9_laysStep_196 rfl (lv_at hl 2 rfl) ?_
                    refine w_get cx hP 0 9 16 rfl rfl (by decide) m_660 rfl rfl dX9_laysStep_197 ?_
                    refine lv_iload hx hb dX9_laysStep_200 (lv_at hl 0 rfl) ?_
                    obtain ⟨g_202, hM⟩ := gd_some hM
                    refine w_lald cx hP 4 rfl g_202 dX9_laysStep_202 ?_
                    obtain ⟨g_203, hM⟩ := gd_some hM
                    refine w_last cx hP hD hS 3 rfl g_203 dX9_laysStep_203 [ob h_t 9 [.ref h_t_now, .ref h_t_read, .ref h_t_past, .int t_saved, .ref h_t_text, .int t_letters, .int t_stage, .ref h_t_part, .int t_size, .ref h_t_matrix, .ref h_t_power, .ref h_t_product, .ref h_t_poly, .ref h_t_old, .ref h_t_step, .ref h_t_column, .ref h_t_moved, .ref h_t_traces, .ref h_t_signed, .ref h_t_plus, .ref h_t_minus, .ref h_t_walk], aJ g h_t_matrix 324 a_t_matrix, aJ g h_t_step 20 (vp_updL z_57.2.1 (z_57.1 + (nI 2)).toNatClampNeg (-r_67)), aJ g h_t_column 18 (vp_updL z_184.2 z_184.1.toNatClampNeg (r_115 z_184.1.toNatClampNeg)), aJ g h_t_moved 18 r_115] rfl (fun H locs hP hD hS => ?_)
                    refine lv_iinc (v := z_184.1 + (nI 1)) (lv' := [(5, .int (z_184.1 + (nI 1))), (2, .int z_57.1), (0, .ref h_t), (1, .int p1)]) hx hb dX9_laysStep_204 hl (k := 0) rfl (congrArg (fun q => z_184.1 + q) (show Int32.ofInt (1) = (nI 1) by decide)) (by decide) rfl (fun ls hl => ?_)
                    refine lv_goto (tgt := 184) hx hb dX9_laysStep_207 (by decide) ?_
                    obtain rfl := Option.some.inj hM
                    exact ih _ hX _ _ _ hP hD hS (lv_sub hl [0, 1, 2, 3] rfl)
              exact hL_184 n _ hn _ _ _ hP hD hS (lv_sub hl [0, 1, 2, 3] rfl)
            clear hM
            have hL_115 : ∀ (n : Nat) (z_115 : Int32 × (Nat → Int64)), it (b_X9_laysStep_115 p1 a_t_matrix z_57) n z_115 = some r_115 → ∀ (H : Heap) (locs : List Loc) (ls : Array Slot), va_P (gD g) vwCl [ob h_t 9 [.ref h_t_now, .ref h_t_read, .ref h_t_past, .int t_saved, .ref h_t_text, .int t_letters, .int t_stage, .ref h_t_part, .int t_size, .ref h_t_matrix, .ref h_t_power, .ref h_t_product, .ref h_t_poly, .ref h_t_old, .ref h_t_step, .ref h_t_column, .ref h_t_moved, .ref h_t_traces, .ref h_t_signed, .ref h_t_plus, .ref h_t_minus, .ref h_t_walk], aJ g h_t_matrix 324 a_t_matrix, aJ g h_t_step 20 (vp_updL z_57.2.1 (z_57.1 + (nI 2)).toNatClampNeg (-r_67)), aJ g h_t_column 18 z_57.2.2.1, aJ g h_t_moved 18 z_115.2] H → va_D A [ob h_t 9 [.ref h_t_now, .ref h_t_read, .ref h_t_past, .int t_saved, .ref h_t_text, .int t_letters, .int t_stage, .ref h_t_part, .int t_size, .ref h_t_matrix, .ref h_t_power, .ref h_t_product, .ref h_t_poly, .ref h_t_old, .ref h_t_step, .ref h_t_column, .ref h_t_moved, .ref h_t_traces, .ref h_t_signed, .ref h_t_plus, .ref h_t_minus, .ref h_t_walk], aJ g h_t_matrix 324 a_t_matrix, aJ g h_t_step 20 (vp_updL z_57.2.1 (z_57.1 + (nI 2)).toNatClampNeg (-r_67)), aJ g h_t_column 18 z_57.2.2.1, aJ g h_t_moved 18 z_115.2] → va_S A s.heap H locs → lv_has ls 7 [(5, .int z_115.1), (2, .int z_57.1), (0, .ref h_t), (1, .int p1)] → W p l e (rmv 0 0) s m args below meth c H locs 0 0 Q (F0 m 115 ls []) := by
              intro n
              induction n with
              | zero => intro z_115 hn; exact (it_zero hn).elim
              | succ n ih =>
                intro z_115 hn H locs ls hP hD hS hl
                obtain ⟨x, hM, hX⟩ := it_succ hn
                clear hn
                refine lv_iload hx hb dX9_laysStep_115 (lv_at hl 0 rfl) ?_
                refine lv_iload_n hx hb dX9_laysStep_117 rfl (lv_at hl 3 rfl) ?_
                refine lv_icmp_ge (tgt := 181) hx hb dX9_laysStep_118 (by decide) (fun c_118 => ?_) (fun c_118 => ?_)
                · have hM := if_t hM c_118
                  obtain rfl := Option.some.inj hM
                  obtain rfl : _ = r_115 := hX
                  exact hE_115_0 _ _ _ hP hD hS (lv_sub hl [1, 2, 3] rfl)
                · have hM := if_f hM c_118
                  refine lv_aload_n hx hb dX9_laysStep_121 rfl (lv_at hl 2 rfl) ?_
                  refine w_get cx hP 0 9 16 rfl rfl (by decide) m_660 rfl rfl dX9_laysStep_122 ?_
                  refine lv_iload hx hb dX9_laysStep_125 (lv_at hl 0 rfl) ?_
                  refine lv_lconst (v := (0 : Int64)) hx hb dX9_laysStep_127 (by decide) ?_
                  obtain ⟨g_128, hM⟩ := gd_some hM
                  refine w_last cx hP hD hS 4 rfl g_128 dX9_laysStep_128 [ob h_t 9 [.ref h_t_now, .ref h_t_read, .ref h_t_past, .int t_saved, .ref h_t_text, .int t_letters, .int t_stage, .ref h_t_part, .int t_size, .ref h_t_matrix, .ref h_t_power, .ref h_t_product, .ref h_t_poly, .ref h_t_old, .ref h_t_step, .ref h_t_column, .ref h_t_moved, .ref h_t_traces, .ref h_t_signed, .ref h_t_plus, .ref h_t_minus, .ref h_t_walk], aJ g h_t_matrix 324 a_t_matrix, aJ g h_t_step 20 (vp_updL z_57.2.1 (z_57.1 + (nI 2)).toNatClampNeg (-r_67)), aJ g h_t_column 18 z_57.2.2.1, aJ g h_t_moved 18 (vp_updL z_115.2 z_115.1.toNatClampNeg (0 : Int64))] rfl (fun H locs hP hD hS => ?_)
                  refine lv_iconst (v := (nI 0)) hx hb dX9_laysStep_129 (by decide) ?_
                  refine lv_istore (lv' := [(6, .int (nI 0)), (5, .int z_115.1), (2, .int z_57.1), (0, .ref h_t), (1, .int p1)]) hx hb dX9_laysStep_130 hl (by decide) rfl (fun ls hl => ?_)
                  obtain ⟨r_132, hw, hM⟩ := bd_some hM
                  obtain ⟨n, hn⟩ := wh_some hw
                  clear hw
                  have hE_132_0 : ∀ (H : Heap) (locs : List Loc) (ls : Array Slot), va_P (gD g) vwCl [ob h_t 9 [.ref h_t_now, .ref h_t_read, .ref h_t_past, .int t_saved, .ref h_t_text, .int t_letters, .int t_stage, .ref h_t_part, .int t_size, .ref h_t_matrix, .ref h_t_power, .ref h_t_product, .ref h_t_poly, .ref h_t_old, .ref h_t_step, .ref h_t_column, .ref h_t_moved, .ref h_t_traces, .ref h_t_signed, .ref h_t_plus, .ref h_t_minus, .ref h_t_walk], aJ g h_t_matrix 324 a_t_matrix, aJ g h_t_step 20 (vp_updL z_57.2.1 (z_57.1 + (nI 2)).toNatClampNeg (-r_67)), aJ g h_t_column 18 z_57.2.2.1, aJ g h_t_moved 18 r_132] H → va_D A [ob h_t 9 [.ref h_t_now, .ref h_t_read, .ref h_t_past, .int t_saved, .ref h_t_text, .int t_letters, .int t_stage, .ref h_t_part, .int t_size, .ref h_t_matrix, .ref h_t_power, .ref h_t_product, .ref h_t_poly, .ref h_t_old, .ref h_t_step, .ref h_t_column, .ref h_t_moved, .ref h_t_traces, .ref h_t_signed, .ref h_t_plus, .ref h_t_minus, .ref h_t_walk], aJ g h_t_matrix 324 a_t_matrix, aJ g h_t_step 20 (vp_updL z_57.2.1 (z_57.1 + (nI 2)).toNatClampNeg (-r_67)), aJ g h_t_column 18 z_57.2.2.1, aJ g h_t_moved 18 r_132] → va_S A s.heap H locs → lv_has ls 7 [(5, .int z_115.1), (2, .int z_57.1), (0, .ref h_t), (1, .int p1)] → W p l e (rmv 0 0) s m args below meth c H locs 0 0 Q (F0 m 175 ls []) := by
                    intro H locs ls hP hD hS hl
                    refine lv_iinc (v := z_115.1 + (nI 1)) (lv' := [(5, .int (z_115.1 + (nI 1))), (2, .int z_57.1), (0, .ref h_t), (1, .int p1)]) hx hb dX9_laysStep_175 hl (k := 0) rfl (congrArg (fun q => z_115.1 + q) (show Int32.ofInt (1) = (nI 1) by decide)) (by decide) rfl (fun ls hl => ?_)
                    refine lv_goto (tgt := 115) hx hb dX9_laysStep_178 (by decide) ?_
                    obtain rfl := Option.some.inj hM
                    exact ih _ hX _ _ _ hP hD hS (lv_sub hl [0, 1, 2, 3] rfl)
                  clear hM
                  have hL_132 : ∀ (n : Nat) (z_132 : Int32 × (Nat → Int64)), it (b_X9_laysStep_132 p1 a_t_matrix z_57 z_115) n z_132 = some r_132 → ∀ (H : Heap) (locs : List Loc) (ls : Array Slot), va_P (gD g) vwCl [ob h_t 9 [.ref h_t_now, .ref h_t_read, .ref h_t_past, .int t_saved, .ref h_t_text, .int t_letters, .int t_stage, .ref h_t_part, .int t_size, .ref h_t_matrix, .ref h_t_power, .ref h_t_product, .ref h_t_poly, .ref h_t_old, .ref h_t_step, .ref h_t_column, .ref h_t_moved, .ref h_t_traces, .ref h_t_signed, .ref h_t_plus, .ref h_t_minus, .ref h_t_walk], aJ g h_t_matrix 324 a_t_matrix, aJ g h_t_step 20 (vp_updL z_57.2.1 (z_57.1 + (nI 2)).toNatClampNeg (-r_67)), aJ g h_t_column 18 z_57.2.2.1, aJ g h_t_moved 18 z_132.2] H → va_D A [ob h_t 9 [.ref h_t_now, .ref h_t_read, .ref h_t_past, .int t_saved, .ref h_t_text, .int t_letters, .int t_stage, .ref h_t_part, .int t_size, .ref h_t_matrix, .ref h_t_power, .ref h_t_product, .ref h_t_poly, .ref h_t_old, .ref h_t_step, .ref h_t_column, .ref h_t_moved, .ref h_t_traces, .ref h_t_signed, .ref h_t_plus, .ref h_t_minus, .ref h_t_walk], aJ g h_t_matrix 324 a_t_matrix, aJ g h_t_step 20 (vp_updL z_57.2.1 (z_57.1 + (nI 2)).toNatClampNeg (-r_67)), aJ g h_t_column 18 z_57.2.2.1, aJ g h_t_moved 18 z_132.2] → va_S A s.heap H locs → lv_has ls 7 [(6, .int z_132.1), (5, .int z_115.1), (2, .int z_57.1), (0, .ref h_t), (1, .int p1)] → W p l e (rmv 0 0) s m args below meth c H locs 0 0 Q (F0 m 132 ls []) := by
                    intro n
                    induction n with
                    | zero => intro z_132 hn; exact (it_zero hn).elim
                    | succ n ih =>
                      intro z_132 hn H locs ls hP hD hS hl
                      obtain ⟨x, hM, hX⟩ := it_succ hn
                      clear hn
                      refine lv_iload hx hb dX9_laysStep_132 (lv_at hl 0 rfl) ?_
                      refine lv_iload_n hx hb dX9_laysStep_134 rfl (lv_at hl 4 rfl) ?_
                      refine lv_icmp_ge (tgt := 175) hx hb dX9_laysStep_135 (by decide) (fun c_135 => ?_) (fun c_135 => ?_)
                      · have hM := if_t hM c_135
                        obtain rfl := Option.some.inj hM
                        obtain rfl : _ = r_132 := hX
                        exact hE_132_0 _ _ _ hP hD hS (lv_sub hl [1, 2, 3, 4] rfl)
                      · have hM := if_f hM c_135
                        refine lv_aload_n hx hb dX9_laysStep_138 rfl (lv_at hl 3 rfl) ?_
                        refine w_get cx hP 0 9 16 rfl rfl (by decide) m_660 rfl rfl dX9_laysStep_139 ?_
                        refine lv_iload hx hb dX9_laysStep_142 (lv_at hl 1 rfl) ?_
                        refine lv_dup2_11 hx hb dX9_laysStep_144 rfl rfl ?_
                        obtain ⟨g_145, hM⟩ := gd_some hM
                        refine w_lald cx hP 4 rfl g_145 dX9_laysStep_145 ?_
                        refine lv_aload_n hx hb dX9_laysStep_146 rfl (lv_at hl 3 rfl) ?_
                        refine w_get cx hP 0 9 9 rfl rfl (by decide) m_653 rfl rfl dX9_laysStep_147 ?_
                        refine lv_bipush (v := (nI 18)) hx hb dX9_laysStep_150 (by decide) ?_
                        refine lv_iload hx hb dX9_laysStep_152 (lv_at hl 1 rfl) ?_
                        refine lv_imul hx hb dX9_laysStep_154 ?_
                        refine lv_iload hx hb dX9_laysStep_155 (lv_at hl 0 rfl) ?_
                        refine lv_iadd hx hb dX9_laysStep_157 ?_
                        obtain ⟨g_158, hM⟩ := gd_some hM
                        refine w_lald cx hP 1 rfl g_158 dX9_laysStep_158 ?_
                        refine lv_aload_n hx hb dX9_laysStep_159 rfl (lv_at hl 3 rfl) ?_
                        refine w_get cx hP 0 9 15 rfl rfl (by decide) m_659 rfl rfl dX9_laysStep_160 ?_
                        refine lv_iload hx hb dX9_laysStep_163 (lv_at hl 0 rfl) ?_
                        obtain ⟨g_165, hM⟩ := gd_some hM
                        refine w_lald cx hP 3 rfl g_165 dX9_laysStep_165 ?_
                        refine lv_lmul hx hb dX9_laysStep_166 ?_
                        refine lv_ladd hx hb dX9_laysStep_167 ?_
                        obtain ⟨g_168, hM⟩ := gd_some hM
                        refine w_last cx hP hD hS 4 rfl g_168 dX9_laysStep_168 [ob h_t 9 [.ref h_t_now, .ref h_t_read, .ref h_t_past, .int t_saved, .ref h_t_text, .int t_letters, .int t_stage, .ref h_t_part, .int t_size, .ref h_t_matrix, .ref h_t_power, .ref h_t_product, .ref h_t_poly, .ref h_t_old, .ref h_t_step, .ref h_t_column, .ref h_t_moved, .ref h_t_traces, .ref h_t_signed, .ref h_t_plus, .ref h_t_minus, .ref h_t_walk], aJ g h_t_matrix 324 a_t_matrix, aJ g h_t_step 20 (vp_updL z_57.2.1 (z_57.1 + (nI 2)).toNatClampNeg (-r_67)), aJ g h_t_column 18 z_57.2.2.1, aJ g h_t_moved 18 (vp_updL z_132.2 z_115.1.toNatClampNeg ((z_132.2 z_115.1.toNatClampNeg) + ((a_t_matrix (((nI 18) * z_115.1) + z_132.1).toNatClampNeg) * (z_57.2.2.1 z_132.1.toNatClampNeg))))] rfl (fun H locs hP hD hS => ?_)
                        refine lv_iinc (v := z_132.1 + (nI 1)) (lv' := [(6, .int (z_132.1 + (nI 1))), (5, .int z_115.1), (2, .int z_57.1), (0, .ref h_t), (1, .int p1)]) hx hb dX9_laysStep_169 hl (k := 0) rfl (congrArg (fun q => z_132.1 + q) (show Int32.ofInt (1) = (nI 1) by decide)) (by decide) rfl (fun ls hl => ?_)
                        refine lv_goto (tgt := 132) hx hb dX9_laysStep_172 (by decide) ?_
                        obtain rfl := Option.some.inj hM
                        exact ih _ hX _ _ _ hP hD hS (lv_sub hl [0, 1, 2, 3, 4] rfl)
                  exact hL_132 n _ hn _ _ _ hP hD hS (lv_sub hl [0, 1, 2, 3, 4] rfl)
            exact hL_115 n _ hn _ _ _ hP hD hS (lv_sub hl [0, 2, 3, 4] rfl)
          clear hM
          have hL_67 : ∀ (n : Nat) (z_67 : Int32 × Int64), it (b_X9_laysStep_67 p1 a_t_matrix z_57) n z_67 = some r_67 → ∀ (H : Heap) (locs : List Loc) (ls : Array Slot), va_P (gD g) vwCl [ob h_t 9 [.ref h_t_now, .ref h_t_read, .ref h_t_past, .int t_saved, .ref h_t_text, .int t_letters, .int t_stage, .ref h_t_part, .int t_size, .ref h_t_matrix, .ref h_t_power, .ref h_t_product, .ref h_t_poly, .ref h_t_old, .ref h_t_step, .ref h_t_column, .ref h_t_moved, .ref h_t_traces, .ref h_t_signed, .ref h_t_plus, .ref h_t_minus, .ref h_t_walk], aJ g h_t_matrix 324 a_t_matrix, aJ g h_t_step 20 z_57.2.1, aJ g h_t_column 18 z_57.2.2.1, aJ g h_t_moved 18 z_57.2.2.2] H → va_D A [ob h_t 9 [.ref h_t_now, .ref h_t_read, .ref h_t_past, .int t_saved, .ref h_t_text, .int t_letters, .int t_stage, .ref h_t_part, .int t_size, .ref h_t_matrix, .ref h_t_power, .ref h_t_product, .ref h_t_poly, .ref h_t_old, .ref h_t_step, .ref h_t_column, .ref h_t_moved, .ref h_t_traces, .ref h_t_signed, .ref h_t_plus, .ref h_t_minus, .ref h_t_walk], aJ g h_t_matrix 324 a_t_matrix, aJ g h_t_step 20 z_57.2.1, aJ g h_t_column 18 z_57.2.2.1, aJ g h_t_moved 18 z_57.2.2.2] → va_S A s.heap H locs → lv_has ls 7 [(5, .int z_67.1), (3, .long z_67.2), (2, .int z_57.1), (0, .ref h_t), (1, .int p1)] → W p l e (rmv 0 0) s m args below meth c H locs 0 0 Q (F0 m 67 ls []) := by
            intro n
            induction n with
            | zero => intro z_67 hn; exact (it_zero hn).elim
            | succ n ih =>
              intro z_67 hn H locs ls hP hD hS hl
              obtain ⟨x, hM, hX⟩ := it_succ hn
              clear hn
              refine lv_iload hx hb dX9_laysStep_67 (lv_at hl 0 rfl) ?_
              refine lv_iload_n hx hb dX9_laysStep_69 rfl (lv_at hl 4 rfl) ?_
              refine lv_icmp_ge (tgt := 102) hx hb dX9_laysStep_70 (by decide) (fun c_70 => ?_) (fun c_70 => ?_)
              · have hM := if_t hM c_70
                obtain rfl := Option.some.inj hM
                obtain rfl : _ = r_67 := hX
                exact hE_67_0 _ _ _ hP hD hS (lv_sub hl [1, 2, 3, 4] rfl)
              · have hM := if_f hM c_70
                refine lv_lload_n hx hb dX9_laysStep_73 rfl (lv_at hl 1 rfl) ?_
                refine lv_aload_n hx hb dX9_laysStep_74 rfl (lv_at hl 3 rfl) ?_
                refine w_get cx hP 0 9 9 rfl rfl (by decide) m_653 rfl rfl dX9_laysStep_75 ?_
                refine lv_bipush (v := (nI 18)) hx hb dX9_laysStep_78 (by decide) ?_
                refine lv_iload_n hx hb dX9_laysStep_80 rfl (lv_at hl 4 rfl) ?_
                refine lv_imul hx hb dX9_laysStep_81 ?_
                refine lv_iload hx hb dX9_laysStep_82 (lv_at hl 0 rfl) ?_
                refine lv_iadd hx hb dX9_laysStep_84 ?_
                obtain ⟨g_85, hM⟩ := gd_some hM
                refine w_lald cx hP 1 rfl g_85 dX9_laysStep_85 ?_
                refine lv_aload_n hx hb dX9_laysStep_86 rfl (lv_at hl 3 rfl) ?_
                refine w_get cx hP 0 9 15 rfl rfl (by decide) m_659 rfl rfl dX9_laysStep_87 ?_
                refine lv_iload hx hb dX9_laysStep_90 (lv_at hl 0 rfl) ?_
                obtain ⟨g_92, hM⟩ := gd_some hM
                refine w_lald cx hP 3 rfl g_92 dX9_laysStep_92 ?_
                refine lv_lmul hx hb dX9_laysStep_93 ?_
                refine lv_ladd hx hb dX9_laysStep_94 ?_
                refine lv_topl (fun x_95 ex_95 => ?_)
                have hM := nm_some hM x_95 ex_95
                refine lv_lstore_n (lv' := [(3, .long x_95), (5, .int z_67.1), (2, .int z_57.1), (0, .ref h_t), (1, .int p1)]) hx hb dX9_laysStep_95 rfl hl (by decide) rfl (fun ls hl => ?_)
                refine lv_iinc (v := z_67.1 + (nI 1)) (lv' := [(5, .int (z_67.1 + (nI 1))), (3, .long x_95), (2, .int z_57.1), (0, .ref h_t), (1, .int p1)]) hx hb dX9_laysStep_96 hl (k := 1) rfl (congrArg (fun q => z_67.1 + q) (show Int32.ofInt (1) = (nI 1) by decide)) (by decide) rfl (fun ls hl => ?_)
                refine lv_goto (tgt := 67) hx hb dX9_laysStep_99 (by decide) ?_
                obtain rfl := Option.some.inj hM
                exact ih _ hX _ _ _ hP hD hS (lv_sub hl [0, 1, 2, 3, 4] rfl)
          exact hL_67 n _ hn _ _ _ hP hD hS (lv_sub hl [0, 1, 2, 3, 4] rfl)
    exact hL_57 n _ hn _ _ _ hP hD hS (lv_sub hl [0, 1, 2] rfl)
  clear hM
  have hL_27 : ∀ (n : Nat) (z_27 : Int32 × (Nat → Int64)), it (b_X9_laysStep_27 p1 a_t_matrix) n z_27 = some r_27 → ∀ (H : Heap) (locs : List Loc) (ls : Array Slot), va_P (gD g) vwCl [ob h_t 9 [.ref h_t_now, .ref h_t_read, .ref h_t_past, .int t_saved, .ref h_t_text, .int t_letters, .int t_stage, .ref h_t_part, .int t_size, .ref h_t_matrix, .ref h_t_power, .ref h_t_product, .ref h_t_poly, .ref h_t_old, .ref h_t_step, .ref h_t_column, .ref h_t_moved, .ref h_t_traces, .ref h_t_signed, .ref h_t_plus, .ref h_t_minus, .ref h_t_walk], aJ g h_t_matrix 324 a_t_matrix, aJ g h_t_step 20 (vp_updL (vp_updL a_t_step (nI 0).toNatClampNeg (1 : Int64)) (nI 1).toNatClampNeg (-(a_t_matrix (((nI 18) * p1) + p1).toNatClampNeg))), aJ g h_t_column 18 z_27.2, aJ g h_t_moved 18 a_t_moved] H → va_D A [ob h_t 9 [.ref h_t_now, .ref h_t_read, .ref h_t_past, .int t_saved, .ref h_t_text, .int t_letters, .int t_stage, .ref h_t_part, .int t_size, .ref h_t_matrix, .ref h_t_power, .ref h_t_product, .ref h_t_poly, .ref h_t_old, .ref h_t_step, .ref h_t_column, .ref h_t_moved, .ref h_t_traces, .ref h_t_signed, .ref h_t_plus, .ref h_t_minus, .ref h_t_walk], aJ g h_t_matrix 324 a_t_matrix, aJ g h_t_step 20 (vp_updL (vp_updL a_t_step (nI 0).toNatClampNeg (1 : Int64)) (nI 1).toNatClampNeg (-(a_t_matrix (((nI 18) * p1) + p1).toNatClampNeg))), aJ g h_t_column 18 z_27.2, aJ g h_t_moved 18 a_t_moved] → va_S A s.heap H locs → lv_has ls 7 [(2, .int z_27.1), (0, .ref h_t), (1, .int p1)] → W p l e (rmv 0 0) s m args below meth c H locs 0 0 Q (F0 m 27 ls []) := by
    intro n
    induction n with
    | zero => intro z_27 hn; exact (it_zero hn).elim
    | succ n ih =>
      intro z_27 hn H locs ls hP hD hS hl
      obtain ⟨x, hM, hX⟩ := it_succ hn
      clear hn
      refine lv_iload_n hx hb dX9_laysStep_27 rfl (lv_at hl 0 rfl) ?_
      refine lv_iload_n hx hb dX9_laysStep_28 rfl (lv_at hl 2 rfl) ?_
      refine lv_icmp_ge (tgt := 55) hx hb dX9_laysStep_29 (by decide) (fun c_29 => ?_) (fun c_29 => ?_)
      · have hM := if_t hM c_29
        obtain rfl := Option.some.inj hM
        obtain rfl : _ = r_27 := hX
        exact hE_27_0 _ _ _ hP hD hS (lv_sub hl [1, 2] rfl)
      · have hM := if_f hM c_29
        refine lv_aload_n hx hb dX9_laysStep_32 rfl (lv_at hl 1 rfl) ?_
        refine w_get cx hP 0 9 15 rfl rfl (by decide) m_659 rfl rfl dX9_laysStep_33 ?_
        refine lv_iload_n hx hb dX9_laysStep_36 rfl (lv_at hl 0 rfl) ?_
        refine lv_aload_n hx hb dX9_laysStep_37 rfl (lv_at hl 1 rfl) ?_
        refine w_get cx hP 0 9 9 rfl rfl (by decide) m_653 rfl rfl dX9_laysStep_38 ?_
        refine lv_bipush (v := (nI 18)) hx hb dX9_laysStep_41 (by decide) ?_
        refine lv_iload_n hx hb dX9_laysStep_43 rfl (lv_at hl 0 rfl) ?_
        refine lv_imul hx hb dX9_laysStep_44 ?_
        refine lv_iload_n hx hb dX9_laysStep_45 rfl (lv_at hl 2 rfl) ?_
        refine lv_iadd hx hb dX9_laysStep_46 ?_
        obtain ⟨g_47, hM⟩ := gd_some hM
        refine w_lald cx hP 1 rfl g_47 dX9_laysStep_47 ?_
        obtain ⟨g_48, hM⟩ := gd_some hM
        refine w_last cx hP hD hS 3 rfl g_48 dX9_laysStep_48 [ob h_t 9 [.ref h_t_now, .ref h_t_read, .ref h_t_past, .int t_saved, .ref h_t_text, .int t_letters, .int t_stage, .ref h_t_part, .int t_size, .ref h_t_matrix, .ref h_t_power, .ref h_t_product, .ref h_t_poly, .ref h_t_old, .ref h_t_step, .ref h_t_column, .ref h_t_moved, .ref h_t_traces, .ref h_t_signed, .ref h_t_plus, .ref h_t_minus, .ref h_t_walk], aJ g h_t_matrix 324 a_t_matrix, aJ g h_t_step 20 (vp_updL (vp_updL a_t_step (nI 0).toNatClampNeg (1 : Int64)) (nI 1).toNatClampNeg (-(a_t_matrix (((nI 18) * p1) + p1).toNatClampNeg))), aJ g h_t_column 18 (vp_updL z_27.2 z_27.1.toNatClampNeg (a_t_matrix (((nI 18) * z_27.1) + p1).toNatClampNeg)), aJ g h_t_moved 18 a_t_moved] rfl (fun H locs hP hD hS => ?_)
        refine lv_iinc (v := z_27.1 + (nI 1)) (lv' := [(2, .int (z_27.1 + (nI 1))), (0, .ref h_t), (1, .int p1)]) hx hb dX9_laysStep_49 hl (k := 0) rfl (congrArg (fun q => z_27.1 + q) (show Int32.ofInt (1) = (nI 1) by decide)) (by decide) rfl (fun ls hl => ?_)
        refine lv_goto (tgt := 27) hx hb dX9_laysStep_52 (by decide) ?_
        obtain rfl := Option.some.inj hM
        exact ih _ hX _ _ _ hP hD hS (lv_sub hl [0, 1, 2] rfl)
  exact hL_27 n _ hn _ _ _ hP hD hS (lv_sub hl [0, 1, 2] rfl)
noncomputable def b_X9_laysPoly_74 (z_17 : Int32 × (Nat → Int64) × (Nat → Int64) × (Nat → Int64) × (Nat → Int64) × (Nat → Int64)) (q_27 : (Nat → Int64) × (Nat → Int64) × (Nat → Int64)) (r_32 : (Nat → Int64) × (Nat → Int64)) (z_65 : Int32 × (Nat → Int64)) : Int32 × (Nat → Int64) → Option ((Int32 × (Nat → Int64)) ⊕ ((Nat → Int64))) := fun z_74 =>
  if z_17.1 < z_74.1 then some (.inr z_74.2) else if z_65.1 < z_74.1 then some (.inr z_74.2) else gd (inb z_65.1 19) (gd (inb (z_65.1 - z_74.1) 20) (gd (inb z_74.1 19) (gd (inb z_65.1 19) (some (.inl (z_74.1 + (nI 1), vp_updL z_74.2 z_65.1.toNatClampNeg ((z_74.2 z_65.1.toNatClampNeg) + ((q_27.1 (z_65.1 - z_74.1).toNatClampNeg) * (r_32.2 z_74.1.toNatClampNeg)))))))))
noncomputable def b_X9_laysPoly_65 (z_17 : Int32 × (Nat → Int64) × (Nat → Int64) × (Nat → Int64) × (Nat → Int64) × (Nat → Int64)) (q_27 : (Nat → Int64) × (Nat → Int64) × (Nat → Int64)) (r_32 : (Nat → Int64) × (Nat → Int64)) : Int32 × (Nat → Int64) → Option ((Int32 × (Nat → Int64)) ⊕ ((Nat → Int64))) := fun z_65 =>
  if (z_17.1 + (nI 1)) < z_65.1 then some (.inr z_65.2) else bd (wh (b_X9_laysPoly_74 z_17 q_27 r_32 z_65) ((nI 0), z_65.2)) (fun (r_74 : Nat → Int64) => some (.inl (z_65.1 + (nI 1), r_74)))
noncomputable def b_X9_laysPoly_32 : Int32 × (Nat → Int64) × (Nat → Int64) → Option ((Int32 × (Nat → Int64) × (Nat → Int64)) ⊕ (((Nat → Int64) × (Nat → Int64)))) := fun z_32 =>
  if (nI 19) ≤ z_32.1 then some (.inr (z_32.2.1, z_32.2.2)) else gd (inb z_32.1 19) (gd (inb z_32.1 19) (gd (inb z_32.1 19) (some (.inl (z_32.1 + (nI 1), vp_updL z_32.2.1 z_32.1.toNatClampNeg (0 : Int64), vp_updL z_32.2.2 z_32.1.toNatClampNeg (z_32.2.1 z_32.1.toNatClampNeg))))))
noncomputable def b_X9_laysPoly_17 (t_saved : Int32) (t_letters : Int32) (t_stage : Int32) (t_size : Int32) (a_t_matrix : Nat → Int64) : Int32 × (Nat → Int64) × (Nat → Int64) × (Nat → Int64) × (Nat → Int64) × (Nat → Int64) → Option ((Int32 × (Nat → Int64) × (Nat → Int64) × (Nat → Int64) × (Nat → Int64) × (Nat → Int64)) ⊕ (((Nat → Int64) × (Nat → Int64) × (Nat → Int64) × (Nat → Int64) × (Nat → Int64)))) := fun z_17 =>
  if t_size ≤ z_17.1 then some (.inr (z_17.2.1, z_17.2.2.1, z_17.2.2.2.1, z_17.2.2.2.2.1, z_17.2.2.2.2.2)) else bd (f_X9_laysStep z_17.1 t_saved t_letters t_stage t_size a_t_matrix z_17.2.2.2.1 z_17.2.2.2.2.1 z_17.2.2.2.2.2) (fun (q_27 : (Nat → Int64) × (Nat → Int64) × (Nat → Int64)) => bd (wh b_X9_laysPoly_32 ((nI 0), z_17.2.1, z_17.2.2.1)) (fun (r_32 : (Nat → Int64) × (Nat → Int64)) => bd (wh (b_X9_laysPoly_65 z_17 q_27 r_32) ((nI 0), r_32.1)) (fun (r_65 : Nat → Int64) => some (.inl (z_17.1 + (nI 1), r_65, r_32.2, q_27.1, q_27.2.1, q_27.2.2)))))
noncomputable def f_X9_laysPoly (t_saved : Int32) (t_letters : Int32) (t_stage : Int32) (t_size : Int32) (a_t_matrix : Nat → Int64) (a_t_poly : Nat → Int64) (a_t_old : Nat → Int64) (a_t_step : Nat → Int64) (a_t_column : Nat → Int64) (a_t_moved : Nat → Int64) : Option ((Nat → Int64) × (Nat → Int64) × (Nat → Int64) × (Nat → Int64) × (Nat → Int64)) :=
  bd (f_X9_clears 19 a_t_poly) (fun (q_5 : Nat → Int64) => gd (inb (nI 0) 19) (bd (wh (b_X9_laysPoly_17 t_saved t_letters t_stage t_size a_t_matrix) ((nI 0), vp_updL q_5 (nI 0).toNatClampNeg (1 : Int64), a_t_old, a_t_step, a_t_column, a_t_moved)) (fun (r_17 : (Nat → Int64) × (Nat → Int64) × (Nat → Int64) × (Nat → Int64) × (Nat → Int64)) => some (r_17.1, r_17.2.1, r_17.2.2.1, r_17.2.2.2.1, r_17.2.2.2.2))))
theorem yq_X9_laysPoly : yq yX9_laysPoly 0 := by unfold yq; decide +kernel
set_option maxHeartbeats 4000000 in
set_option maxRecDepth 100000 in
theorem c_X9_laysPoly (g : GG) (l : Launch) (h_t : Nat) (h_t_now : Nat) (h_t_read : Nat) (h_t_past : Nat) (h_t_text : Nat) (h_t_part : Nat) (h_t_matrix : Nat) (h_t_power : Nat) (h_t_product : Nat) (h_t_poly : Nat) (h_t_old : Nat) (h_t_step : Nat) (h_t_column : Nat) (h_t_moved : Nat) (h_t_traces : Nat) (h_t_signed : Nat) (h_t_plus : Nat) (h_t_minus : Nat) (h_t_walk : Nat) (t_saved : Int32) (t_letters : Int32) (t_stage : Int32) (t_size : Int32) (a_t_matrix : Nat → Int64) (a_t_poly : Nat → Int64) (a_t_old : Nat → Int64) (a_t_step : Nat → Int64) (a_t_column : Nat → Int64) (a_t_moved : Nat → Int64) {R : (Nat → Int64) × (Nat → Int64) × (Nat → Int64) × (Nat → Int64) × (Nat → Int64)} (hM : f_X9_laysPoly t_saved t_letters t_stage t_size a_t_matrix a_t_poly a_t_old a_t_step a_t_column a_t_moved = some R) : CT g l yX9_laysPoly cX9_laysPoly 4 none 1 26 [.ref h_t] [ob h_t 9 [.ref h_t_now, .ref h_t_read, .ref h_t_past, .int t_saved, .ref h_t_text, .int t_letters, .int t_stage, .ref h_t_part, .int t_size, .ref h_t_matrix, .ref h_t_power, .ref h_t_product, .ref h_t_poly, .ref h_t_old, .ref h_t_step, .ref h_t_column, .ref h_t_moved, .ref h_t_traces, .ref h_t_signed, .ref h_t_plus, .ref h_t_minus, .ref h_t_walk], aJ g h_t_matrix 324 a_t_matrix, aJ g h_t_poly 19 a_t_poly, aJ g h_t_old 19 a_t_old, aJ g h_t_step 20 a_t_step, aJ g h_t_column 18 a_t_column, aJ g h_t_moved 18 a_t_moved] [ob h_t 9 [.ref h_t_now, .ref h_t_read, .ref h_t_past, .int t_saved, .ref h_t_text, .int t_letters, .int t_stage, .ref h_t_part, .int t_size, .ref h_t_matrix, .ref h_t_power, .ref h_t_product, .ref h_t_poly, .ref h_t_old, .ref h_t_step, .ref h_t_column, .ref h_t_moved, .ref h_t_traces, .ref h_t_signed, .ref h_t_plus, .ref h_t_minus, .ref h_t_walk], aJ g h_t_matrix 324 a_t_matrix, aJ g h_t_poly 19 R.1, aJ g h_t_old 19 R.2.1, aJ g h_t_step 20 R.2.2.1, aJ g h_t_column 18 R.2.2.2.1, aJ g h_t_moved 18 R.2.2.2.2] none := by
  refine ct_v (by decide +kernel) (Nat.le_of_ble_eq_true rfl) ?_
  intro p e s m args below meth c Q A ls cx hP hD hA hl hfin
  obtain ⟨hx, hb, hml, hown, hts, hK⟩ := id cx
  have hl : lv_has ls 4 [(0, .ref h_t)] := hl
  have hS : va_S A s.heap s.heap [] := va_S.rf
  refine lv_aload_n hx hb dX9_laysPoly_0 rfl (lv_at hl 0 rfl) ?_
  refine lv_aload_n hx hb dX9_laysPoly_1 rfl (lv_at hl 0 rfl) ?_
  refine w_get cx hP 0 9 12 rfl rfl (by decide) m_656 rfl rfl dX9_laysPoly_2 ?_
  obtain ⟨q_5, hc_5, hM⟩ := bd_some hM
  refine w_callV cx hP hD hS hA (c_X9_clears g l h_t_poly h_t 19 a_t_poly hc_5) [2] rfl (by decide) rfl [ob h_t 9 [.ref h_t_now, .ref h_t_read, .ref h_t_past, .int t_saved, .ref h_t_text, .int t_letters, .int t_stage, .ref h_t_part, .int t_size, .ref h_t_matrix, .ref h_t_power, .ref h_t_product, .ref h_t_poly, .ref h_t_old, .ref h_t_step, .ref h_t_column, .ref h_t_moved, .ref h_t_traces, .ref h_t_signed, .ref h_t_plus, .ref h_t_minus, .ref h_t_walk], aJ g h_t_matrix 324 a_t_matrix, aJ g h_t_poly 19 q_5, aJ g h_t_old 19 a_t_old, aJ g h_t_step 20 a_t_step, aJ g h_t_column 18 a_t_column, aJ g h_t_moved 18 a_t_moved] rfl 0 9 rfl rfl yq_X9_clears rfl m_903 m_905 m_36 m_51 m_906 ⟨Nat.le_of_ble_eq_true rfl, Nat.le_of_ble_eq_true rfl⟩ rfl rfl hl.1 (Nat.le_of_ble_eq_true rfl) dX9_laysPoly_5 ⟨Nat.le_refl 0, Nat.le_refl 0⟩ rfl (fun H locs hP hD hS => ?_)
  refine lv_aload_n hx hb dX9_laysPoly_8 rfl (lv_at hl 0 rfl) ?_
  refine w_get cx hP 0 9 12 rfl rfl (by decide) m_656 rfl rfl dX9_laysPoly_9 ?_
  refine lv_iconst (v := (nI 0)) hx hb dX9_laysPoly_12 (by decide) ?_
  refine lv_lconst (v := (1 : Int64)) hx hb dX9_laysPoly_13 (by decide) ?_
  obtain ⟨g_14, hM⟩ := gd_some hM
  refine w_last cx hP hD hS 2 rfl g_14 dX9_laysPoly_14 [ob h_t 9 [.ref h_t_now, .ref h_t_read, .ref h_t_past, .int t_saved, .ref h_t_text, .int t_letters, .int t_stage, .ref h_t_part, .int t_size, .ref h_t_matrix, .ref h_t_power, .ref h_t_product, .ref h_t_poly, .ref h_t_old, .ref h_t_step, .ref h_t_column, .ref h_t_moved, .ref h_t_traces, .ref h_t_signed, .ref h_t_plus, .ref h_t_minus, .ref h_t_walk], aJ g h_t_matrix 324 a_t_matrix, aJ g h_t_poly 19 (vp_updL q_5 (nI 0).toNatClampNeg (1 : Int64)), aJ g h_t_old 19 a_t_old, aJ g h_t_step 20 a_t_step, aJ g h_t_column 18 a_t_column, aJ g h_t_moved 18 a_t_moved] rfl (fun H locs hP hD hS => ?_)
  refine lv_iconst (v := (nI 0)) hx hb dX9_laysPoly_15 (by decide) ?_
  refine lv_istore_n (lv' := [(1, .int (nI 0)), (0, .ref h_t)]) hx hb dX9_laysPoly_16 rfl hl (by decide) rfl (fun ls hl => ?_)
  obtain ⟨r_17, hw, hM⟩ := bd_some hM
  obtain ⟨n, hn⟩ := wh_some hw
  clear hw
  have hE_17_0 : ∀ (H : Heap) (locs : List Loc) (ls : Array Slot), va_P (gD g) vwCl [ob h_t 9 [.ref h_t_now, .ref h_t_read, .ref h_t_past, .int t_saved, .ref h_t_text, .int t_letters, .int t_stage, .ref h_t_part, .int t_size, .ref h_t_matrix, .ref h_t_power, .ref h_t_product, .ref h_t_poly, .ref h_t_old, .ref h_t_step, .ref h_t_column, .ref h_t_moved, .ref h_t_traces, .ref h_t_signed, .ref h_t_plus, .ref h_t_minus, .ref h_t_walk], aJ g h_t_matrix 324 a_t_matrix, aJ g h_t_poly 19 r_17.1, aJ g h_t_old 19 r_17.2.1, aJ g h_t_step 20 r_17.2.2.1, aJ g h_t_column 18 r_17.2.2.2.1, aJ g h_t_moved 18 r_17.2.2.2.2] H → va_D A [ob h_t 9 [.ref h_t_now, .ref h_t_read, .ref h_t_past, .int t_saved, .ref h_t_text, .int t_letters, .int t_stage, .ref h_t_part, .int t_size, .ref h_t_matrix, .ref h_t_power, .ref h_t_product, .ref h_t_poly, .ref h_t_old, .ref h_t_step, .ref h_t_column, .ref h_t_moved, .ref h_t_traces, .ref h_t_signed, .ref h_t_plus, .ref h_t_minus, .ref h_t_walk], aJ g h_t_matrix 324 a_t_matrix, aJ g h_t_poly 19 r_17.1, aJ g h_t_old 19 r_17.2.1, aJ g h_t_step 20 r_17.2.2.1, aJ g h_t_column 18 r_17.2.2.2.1, aJ g h_t_moved 18 r_17.2.2.2.2] → va_S A s.heap H locs → lv_has ls 4 [] → W p l e (rmv 1 26) s m args below meth c H locs 0 0 Q (F0 m 126 ls []) := by
    intro H locs ls hP hD hS hl
    obtain rfl := Option.some.inj hM
    exact hfin 126 _ _ _ dX9_laysPoly_126 hP hD hS
  clear hM
  have hL_17 : ∀ (n : Nat) (z_17 : Int32 × (Nat → Int64) × (Nat → Int64) × (Nat → Int64) × (Nat → Int64) × (Nat → Int64)), it (b_X9_laysPoly_17 t_saved t_letters t_stage t_size a_t_matrix) n z_17 = some r_17 → ∀ (H : Heap) (locs : List Loc) (ls : Array Slot), va_P (gD g) vwCl [ob h_t 9 [.ref h_t_now, .ref h_t_read, .ref h_t_past, .int t_saved, .ref h_t_text, .int t_letters, .int t_stage, .ref h_t_part, .int t_size, .ref h_t_matrix, .ref h_t_power, .ref h_t_product, .ref h_t_poly, .ref h_t_old, .ref h_t_step, .ref h_t_column, .ref h_t_moved, .ref h_t_traces, .ref h_t_signed, .ref h_t_plus, .ref h_t_minus, .ref h_t_walk], aJ g h_t_matrix 324 a_t_matrix, aJ g h_t_poly 19 z_17.2.1, aJ g h_t_old 19 z_17.2.2.1, aJ g h_t_step 20 z_17.2.2.2.1, aJ g h_t_column 18 z_17.2.2.2.2.1, aJ g h_t_moved 18 z_17.2.2.2.2.2] H → va_D A [ob h_t 9 [.ref h_t_now, .ref h_t_read, .ref h_t_past, .int t_saved, .ref h_t_text, .int t_letters, .int t_stage, .ref h_t_part, .int t_size, .ref h_t_matrix, .ref h_t_power, .ref h_t_product, .ref h_t_poly, .ref h_t_old, .ref h_t_step, .ref h_t_column, .ref h_t_moved, .ref h_t_traces, .ref h_t_signed, .ref h_t_plus, .ref h_t_minus, .ref h_t_walk], aJ g h_t_matrix 324 a_t_matrix, aJ g h_t_poly 19 z_17.2.1, aJ g h_t_old 19 z_17.2.2.1, aJ g h_t_step 20 z_17.2.2.2.1, aJ g h_t_column 18 z_17.2.2.2.2.1, aJ g h_t_moved 18 z_17.2.2.2.2.2] → va_S A s.heap H locs → lv_has ls 4 [(1, .int z_17.1), (0, .ref h_t)] → W p l e (rmv 1 26) s m args below meth c H locs 0 0 Q (F0 m 17 ls []) := by
    intro n
    induction n with
    | zero => intro z_17 hn; exact (it_zero hn).elim
    | succ n ih =>
      intro z_17 hn H locs ls hP hD hS hl
      obtain ⟨x, hM, hX⟩ := it_succ hn
      clear hn
      refine lv_iload_n hx hb dX9_laysPoly_17 rfl (lv_at hl 0 rfl) ?_
      refine lv_aload_n hx hb dX9_laysPoly_18 rfl (lv_at hl 1 rfl) ?_
      refine w_get cx hP 0 9 8 rfl rfl (by decide) m_652 rfl rfl dX9_laysPoly_19 ?_
      refine lv_icmp_ge (tgt := 126) hx hb dX9_laysPoly_22 (by decide) (fun c_22 => ?_) (fun c_22 => ?_)
      · have hM := if_t hM c_22
        obtain rfl := Option.some.inj hM
        obtain rfl : _ = r_17 := hX
        exact hE_17_0 _ _ _ hP hD hS (lv_sub hl [] rfl)
      · have hM := if_f hM c_22
        refine lv_aload_n hx hb dX9_laysPoly_25 rfl (lv_at hl 1 rfl) ?_
        refine lv_iload_n hx hb dX9_laysPoly_26 rfl (lv_at hl 0 rfl) ?_
        obtain ⟨q_27, hc_27, hM⟩ := bd_some hM
        refine w_callV cx hP hD hS hA (c_X9_laysStep g l h_t h_t_now h_t_read h_t_past h_t_text h_t_part h_t_matrix h_t_power h_t_product h_t_poly h_t_old h_t_step h_t_column h_t_moved h_t_traces h_t_signed h_t_plus h_t_minus h_t_walk z_17.1 t_saved t_letters t_stage t_size a_t_matrix z_17.2.2.2.1 z_17.2.2.2.2.1 z_17.2.2.2.2.2 hc_27) [0, 1, 4, 5, 6] rfl (by decide) rfl [ob h_t 9 [.ref h_t_now, .ref h_t_read, .ref h_t_past, .int t_saved, .ref h_t_text, .int t_letters, .int t_stage, .ref h_t_part, .int t_size, .ref h_t_matrix, .ref h_t_power, .ref h_t_product, .ref h_t_poly, .ref h_t_old, .ref h_t_step, .ref h_t_column, .ref h_t_moved, .ref h_t_traces, .ref h_t_signed, .ref h_t_plus, .ref h_t_minus, .ref h_t_walk], aJ g h_t_matrix 324 a_t_matrix, aJ g h_t_poly 19 z_17.2.1, aJ g h_t_old 19 z_17.2.2.1, aJ g h_t_step 20 q_27.1, aJ g h_t_column 18 q_27.2.1, aJ g h_t_moved 18 q_27.2.2] rfl 0 9 rfl rfl yq_X9_laysStep rfl m_907 m_909 m_37 m_51 m_910 ⟨Nat.le_of_ble_eq_true rfl, Nat.le_of_ble_eq_true rfl⟩ rfl rfl hl.1 (Nat.le_of_ble_eq_true rfl) dX9_laysPoly_27 ⟨Nat.le_refl 0, Nat.le_refl 0⟩ rfl (fun H locs hP hD hS => ?_)
        refine lv_iconst (v := (nI 0)) hx hb dX9_laysPoly_30 (by decide) ?_
        refine lv_istore_n (lv' := [(2, .int (nI 0)), (1, .int z_17.1), (0, .ref h_t)]) hx hb dX9_laysPoly_31 rfl hl (by decide) rfl (fun ls hl => ?_)
        obtain ⟨r_32, hw, hM⟩ := bd_some hM
        obtain ⟨n, hn⟩ := wh_some hw
        clear hw
        have hE_32_0 : ∀ (H : Heap) (locs : List Loc) (ls : Array Slot), va_P (gD g) vwCl [ob h_t 9 [.ref h_t_now, .ref h_t_read, .ref h_t_past, .int t_saved, .ref h_t_text, .int t_letters, .int t_stage, .ref h_t_part, .int t_size, .ref h_t_matrix, .ref h_t_power, .ref h_t_product, .ref h_t_poly, .ref h_t_old, .ref h_t_step, .ref h_t_column, .ref h_t_moved, .ref h_t_traces, .ref h_t_signed, .ref h_t_plus, .ref h_t_minus, .ref h_t_walk], aJ g h_t_matrix 324 a_t_matrix, aJ g h_t_poly 19 r_32.1, aJ g h_t_old 19 r_32.2, aJ g h_t_step 20 q_27.1, aJ g h_t_column 18 q_27.2.1, aJ g h_t_moved 18 q_27.2.2] H → va_D A [ob h_t 9 [.ref h_t_now, .ref h_t_read, .ref h_t_past, .int t_saved, .ref h_t_text, .int t_letters, .int t_stage, .ref h_t_part, .int t_size, .ref h_t_matrix, .ref h_t_power, .ref h_t_product, .ref h_t_poly, .ref h_t_old, .ref h_t_step, .ref h_t_column, .ref h_t_moved, .ref h_t_traces, .ref h_t_signed, .ref h_t_plus, .ref h_t_minus, .ref h_t_walk], aJ g h_t_matrix 324 a_t_matrix, aJ g h_t_poly 19 r_32.1, aJ g h_t_old 19 r_32.2, aJ g h_t_step 20 q_27.1, aJ g h_t_column 18 q_27.2.1, aJ g h_t_moved 18 q_27.2.2] → va_S A s.heap H locs → lv_has ls 4 [(1, .int z_17.1), (0, .ref h_t)] → W p l e (rmv 1 26) s m args below meth c H locs 0 0 Q (F0 m 63 ls []) := by
          intro H locs ls hP hD hS hl
          refine lv_iconst (v := (nI 0)) hx hb dX9_laysPoly_63 (by decide) ?_
          refine lv_istore_n (lv' := [(2, .int (nI 0)), (1, .int z_17.1), (0, .ref h_t)]) hx hb dX9_laysPoly_64 rfl hl (by decide) rfl (fun ls hl => ?_)
          obtain ⟨r_65, hw, hM⟩ := bd_some hM
          obtain ⟨n, hn⟩ := wh_some hw
          clear hw
          have hE_65_0 : ∀ (H : Heap) (locs : List Loc) (ls : Array Slot), va_P (gD g) vwCl [ob h_t 9 [.ref h_t_now, .ref h_t_read, .ref h_t_past, .int t_saved, .ref h_t_text, .int t_letters, .int t_stage, .ref h_t_part, .int t_size, .ref h_t_matrix, .ref h_t_power, .ref h_t_product, .ref h_t_poly, .ref h_t_old, .ref h_t_step, .ref h_t_column, .ref h_t_moved, .ref h_t_traces, .ref h_t_signed, .ref h_t_plus, .ref h_t_minus, .ref h_t_walk], aJ g h_t_matrix 324 a_t_matrix, aJ g h_t_poly 19 r_65, aJ g h_t_old 19 r_32.2, aJ g h_t_step 20 q_27.1, aJ g h_t_column 18 q_27.2.1, aJ g h_t_moved 18 q_27.2.2] H → va_D A [ob h_t 9 [.ref h_t_now, .ref h_t_read, .ref h_t_past, .int t_saved, .ref h_t_text, .int t_letters, .int t_stage, .ref h_t_part, .int t_size, .ref h_t_matrix, .ref h_t_power, .ref h_t_product, .ref h_t_poly, .ref h_t_old, .ref h_t_step, .ref h_t_column, .ref h_t_moved, .ref h_t_traces, .ref h_t_signed, .ref h_t_plus, .ref h_t_minus, .ref h_t_walk], aJ g h_t_matrix 324 a_t_matrix, aJ g h_t_poly 19 r_65, aJ g h_t_old 19 r_32.2, aJ g h_t_step 20 q_27.1, aJ g h_t_column 18 q_27.2.1, aJ g h_t_moved 18 q_27.2.2] → va_S A s.heap H locs → lv_has ls 4 [(1, .int z_17.1), (0, .ref h_t)] → W p l e (rmv 1 26) s m args below meth c H locs 0 0 Q (F0 m 120 ls []) := by
            intro H locs ls hP hD hS hl
            refine lv_iinc (v := z_17.1 + (nI 1)) (lv' := [(1, .int (z_17.1 + (nI 1))), (0, .ref h_t)]) hx hb dX9_laysPoly_120 hl (k := 0) rfl (congrArg (fun q => z_17.1 + q) (show Int32.ofInt (1) = (nI 1) by decide)) (by decide) rfl (fun ls hl => ?_)
            refine lv_goto (tgt := 17) hx hb dX9_laysPoly_123 (by decide) ?_
            obtain rfl := Option.some.inj hM
            exact ih _ hX _ _ _ hP hD hS (lv_sub hl [0, 1] rfl)
          clear hM
          have hL_65 : ∀ (n : Nat) (z_65 : Int32 × (Nat → Int64)), it (b_X9_laysPoly_65 z_17 q_27 r_32) n z_65 = some r_65 → ∀ (H : Heap) (locs : List Loc) (ls : Array Slot), va_P (gD g) vwCl [ob h_t 9 [.ref h_t_now, .ref h_t_read, .ref h_t_past, .int t_saved, .ref h_t_text, .int t_letters, .int t_stage, .ref h_t_part, .int t_size, .ref h_t_matrix, .ref h_t_power, .ref h_t_product, .ref h_t_poly, .ref h_t_old, .ref h_t_step, .ref h_t_column, .ref h_t_moved, .ref h_t_traces, .ref h_t_signed, .ref h_t_plus, .ref h_t_minus, .ref h_t_walk], aJ g h_t_matrix 324 a_t_matrix, aJ g h_t_poly 19 z_65.2, aJ g h_t_old 19 r_32.2, aJ g h_t_step 20 q_27.1, aJ g h_t_column 18 q_27.2.1, aJ g h_t_moved 18 q_27.2.2] H → va_D A [ob h_t 9 [.ref h_t_now, .ref h_t_read, .ref h_t_past, .int t_saved, .ref h_t_text, .int t_letters, .int t_stage, .ref h_t_part, .int t_size, .ref h_t_matrix, .ref h_t_power, .ref h_t_product, .ref h_t_poly, .ref h_t_old, .ref h_t_step, .ref h_t_column, .ref h_t_moved, .ref h_t_traces, .ref h_t_signed, .ref h_t_plus, .ref h_t_minus, .ref h_t_walk], aJ g h_t_matrix 324 a_t_matrix, aJ g h_t_poly 19 z_65.2, aJ g h_t_old 19 r_32.2, aJ g h_t_step 20 q_27.1, aJ g h_t_column 18 q_27.2.1, aJ g h_t_moved 18 q_27.2.2] → va_S A s.heap H locs → lv_has ls 4 [(2, .int z_65.1), (1, .int z_17.1), (0, .ref h_t)] → W p l e (rmv 1 26) s m args below meth c H locs 0 0 Q (F0 m 65 ls []) := by
            intro n
            induction n with
            | zero => intro z_65 hn; exact (it_zero hn).elim
            | succ n ih =>
              intro z_65 hn H locs ls hP hD hS hl
              obtain ⟨x, hM, hX⟩ := it_succ hn
              clear hn
              refine lv_iload_n hx hb dX9_laysPoly_65 rfl (lv_at hl 0 rfl) ?_
              refine lv_iload_n hx hb dX9_laysPoly_66 rfl (lv_at hl 1 rfl) ?_
              refine lv_iconst (v := (nI 1)) hx hb dX9_laysPoly_67 (by decide) ?_
              refine lv_iadd hx hb dX9_laysPoly_68 ?_
              refine lv_icmp_gt (tgt := 120) hx hb dX9_laysPoly_69 (by decide) (fun c_69 => ?_) (fun c_69 => ?_)
              · have hM := if_t hM c_69
                obtain rfl := Option.some.inj hM
                obtain rfl : _ = r_65 := hX
                exact hE_65_0 _ _ _ hP hD hS (lv_sub hl [1, 2] rfl)
              · have hM := if_f hM c_69
                refine lv_iconst (v := (nI 0)) hx hb dX9_laysPoly_72 (by decide) ?_
                refine lv_istore_n (lv' := [(3, .int (nI 0)), (2, .int z_65.1), (1, .int z_17.1), (0, .ref h_t)]) hx hb dX9_laysPoly_73 rfl hl (by decide) rfl (fun ls hl => ?_)
                obtain ⟨r_74, hw, hM⟩ := bd_some hM
                obtain ⟨n, hn⟩ := wh_some hw
                clear hw
                have hE_74_0 : ∀ (H : Heap) (locs : List Loc) (ls : Array Slot), va_P (gD g) vwCl [ob h_t 9 [.ref h_t_now, .ref h_t_read, .ref h_t_past, .int t_saved, .ref h_t_text, .int t_letters, .int t_stage, .ref h_t_part, .int t_size, .ref h_t_matrix, .ref h_t_power, .ref h_t_product, .ref h_t_poly, .ref h_t_old, .ref h_t_step, .ref h_t_column, .ref h_t_moved, .ref h_t_traces, .ref h_t_signed, .ref h_t_plus, .ref h_t_minus, .ref h_t_walk], aJ g h_t_matrix 324 a_t_matrix, aJ g h_t_poly 19 r_74, aJ g h_t_old 19 r_32.2, aJ g h_t_step 20 q_27.1, aJ g h_t_column 18 q_27.2.1, aJ g h_t_moved 18 q_27.2.2] H → va_D A [ob h_t 9 [.ref h_t_now, .ref h_t_read, .ref h_t_past, .int t_saved, .ref h_t_text, .int t_letters, .int t_stage, .ref h_t_part, .int t_size, .ref h_t_matrix, .ref h_t_power, .ref h_t_product, .ref h_t_poly, .ref h_t_old, .ref h_t_step, .ref h_t_column, .ref h_t_moved, .ref h_t_traces, .ref h_t_signed, .ref h_t_plus, .ref h_t_minus, .ref h_t_walk], aJ g h_t_matrix 324 a_t_matrix, aJ g h_t_poly 19 r_74, aJ g h_t_old 19 r_32.2, aJ g h_t_step 20 q_27.1, aJ g h_t_column 18 q_27.2.1, aJ g h_t_moved 18 q_27.2.2] → va_S A s.heap H locs → lv_has ls 4 [(2, .int z_65.1), (1, .int z_17.1), (0, .ref h_t)] → W p l e (rmv 1 26) s m args below meth c H locs 0 0 Q (F0 m 114 ls []) := by
                  intro H locs ls hP hD hS hl
                  refine lv_iinc (v := z_65.1 + (nI 1)) (lv' := [(2, .int (z_65.1 + (nI 1))), (1, .int z_17.1), (0, .ref h_t)]) hx hb dX9_laysPoly_114 hl (k := 0) rfl (congrArg (fun q => z_65.1 + q) (show Int32.ofInt (1) = (nI 1) by decide)) (by decide) rfl (fun ls hl => ?_)
                  refine lv_goto (tgt := 65) hx hb dX9_laysPoly_117 (by decide) ?_
                  obtain rfl := Option.some.inj hM
                  exact ih _ hX _ _ _ hP hD hS (lv_sub hl [0, 1, 2] rfl)
                clear hM
                have hL_74 : ∀ (n : Nat) (z_74 : Int32 × (Nat → Int64)), it (b_X9_laysPoly_74 z_17 q_27 r_32 z_65) n z_74 = some r_74 → ∀ (H : Heap) (locs : List Loc) (ls : Array Slot), va_P (gD g) vwCl [ob h_t 9 [.ref h_t_now, .ref h_t_read, .ref h_t_past, .int t_saved, .ref h_t_text, .int t_letters, .int t_stage, .ref h_t_part, .int t_size, .ref h_t_matrix, .ref h_t_power, .ref h_t_product, .ref h_t_poly, .ref h_t_old, .ref h_t_step, .ref h_t_column, .ref h_t_moved, .ref h_t_traces, .ref h_t_signed, .ref h_t_plus, .ref h_t_minus, .ref h_t_walk], aJ g h_t_matrix 324 a_t_matrix, aJ g h_t_poly 19 z_74.2, aJ g h_t_old 19 r_32.2, aJ g h_t_step 20 q_27.1, aJ g h_t_column 18 q_27.2.1, aJ g h_t_moved 18 q_27.2.2] H → va_D A [ob h_t 9 [.ref h_t_now, .ref h_t_read, .ref h_t_past, .int t_saved, .ref h_t_text, .int t_letters, .int t_stage, .ref h_t_part, .int t_size, .ref h_t_matrix, .ref h_t_power, .ref h_t_product, .ref h_t_poly, .ref h_t_old, .ref h_t_step, .ref h_t_column, .ref h_t_moved, .ref h_t_traces, .ref h_t_signed, .ref h_t_plus, .ref h_t_minus, .ref h_t_walk], aJ g h_t_matrix 324 a_t_matrix, aJ g h_t_poly 19 z_74.2, aJ g h_t_old 19 r_32.2, aJ g h_t_step 20 q_27.1, aJ g h_t_column 18 q_27.2.1, aJ g h_t_moved 18 q_27.2.2] → va_S A s.heap H locs → lv_has ls 4 [(3, .int z_74.1), (2, .int z_65.1), (1, .int z_17.1), (0, .ref h_t)] → W p l e (rmv 1 26) s m args below meth c H locs 0 0 Q (F0 m 74 ls []) := by
                  intro n
                  induction n with
                  | zero => intro z_74 hn; exact (it_zero hn).elim
                  | succ n ih =>
                    intro z_74 hn H locs ls hP hD hS hl
                    obtain ⟨x, hM, hX⟩ := it_succ hn
                    clear hn
                    refine lv_iload_n hx hb dX9_laysPoly_74 rfl (lv_at hl 0 rfl) ?_
                    refine lv_iload_n hx hb dX9_laysPoly_75 rfl (lv_at hl 2 rfl) ?_
                    refine lv_icmp_gt (tgt := 114) hx hb dX9_laysPoly_76 (by decide) (fun c_76 => ?_) (fun c_76 => ?_)
                    · have hM := if_t hM c_76
                      obtain rfl := Option.some.inj hM
                      obtain rfl : _ = r_74 := hX
                      exact hE_74_0 _ _ _ hP hD hS (lv_sub hl [1, 2, 3] rfl)
                    · have hM := if_f hM c_76
                      refine lv_iload_n hx hb dX9_laysPoly_79 rfl (lv_at hl 0 rfl) ?_
                      refine lv_iload_n hx hb dX9_laysPoly_80 rfl (lv_at hl 1 rfl) ?_
                      refine lv_icmp_gt (tgt := 114) hx hb dX9_laysPoly_81 (by decide) (fun c_81 => ?_) (fun c_81 => ?_)
                      · have hM := if_t hM c_81
                        obtain rfl := Option.some.inj hM
                        obtain rfl : _ = r_74 := hX
                        exact hE_74_0 _ _ _ hP hD hS (lv_sub hl [1, 2, 3] rfl)
                      · have hM := if_f hM c_81
                        refine lv_aload_n hx hb dX9_laysPoly_84 rfl (lv_at hl 3 rfl) ?_
                        refine w_get cx hP 0 9 12 rfl rfl (by decide) m_656 rfl rfl dX9_laysPoly_85 ?_
                        refine lv_iload_n hx hb dX9_laysPoly_88 rfl (lv_at hl 1 rfl) ?_
                        refine lv_dup2_11 hx hb dX9_laysPoly_89 rfl rfl ?_
                        obtain ⟨g_90, hM⟩ := gd_some hM
                        refine w_lald cx hP 2 rfl g_90 dX9_laysPoly_90 ?_
                        refine lv_aload_n hx hb dX9_laysPoly_91 rfl (lv_at hl 3 rfl) ?_
                        refine w_get cx hP 0 9 14 rfl rfl (by decide) m_658 rfl rfl dX9_laysPoly_92 ?_
                        refine lv_iload_n hx hb dX9_laysPoly_95 rfl (lv_at hl 1 rfl) ?_
                        refine lv_iload_n hx hb dX9_laysPoly_96 rfl (lv_at hl 0 rfl) ?_
                        refine lv_isub hx hb dX9_laysPoly_97 ?_
                        obtain ⟨g_98, hM⟩ := gd_some hM
                        refine w_lald cx hP 4 rfl g_98 dX9_laysPoly_98 ?_
                        refine lv_aload_n hx hb dX9_laysPoly_99 rfl (lv_at hl 3 rfl) ?_
                        refine w_get cx hP 0 9 13 rfl rfl (by decide) m_657 rfl rfl dX9_laysPoly_100 ?_
                        refine lv_iload_n hx hb dX9_laysPoly_103 rfl (lv_at hl 0 rfl) ?_
                        obtain ⟨g_104, hM⟩ := gd_some hM
                        refine w_lald cx hP 3 rfl g_104 dX9_laysPoly_104 ?_
                        refine lv_lmul hx hb dX9_laysPoly_105 ?_
                        refine lv_ladd hx hb dX9_laysPoly_106 ?_
                        obtain ⟨g_107, hM⟩ := gd_some hM
                        refine w_last cx hP hD hS 2 rfl g_107 dX9_laysPoly_107 [ob h_t 9 [.ref h_t_now, .ref h_t_read, .ref h_t_past, .int t_saved, .ref h_t_text, .int t_letters, .int t_stage, .ref h_t_part, .int t_size, .ref h_t_matrix, .ref h_t_power, .ref h_t_product, .ref h_t_poly, .ref h_t_old, .ref h_t_step, .ref h_t_column, .ref h_t_moved, .ref h_t_traces, .ref h_t_signed, .ref h_t_plus, .ref h_t_minus, .ref h_t_walk], aJ g h_t_matrix 324 a_t_matrix, aJ g h_t_poly 19 (vp_updL z_74.2 z_65.1.toNatClampNeg ((z_74.2 z_65.1.toNatClampNeg) + ((q_27.1 (z_65.1 - z_74.1).toNatClampNeg) * (r_32.2 z_74.1.toNatClampNeg)))), aJ g h_t_old 19 r_32.2, aJ g h_t_step 20 q_27.1, aJ g h_t_column 18 q_27.2.1, aJ g h_t_moved 18 q_27.2.2] rfl (fun H locs hP hD hS => ?_)
                        refine lv_iinc (v := z_74.1 + (nI 1)) (lv' := [(3, .int (z_74.1 + (nI 1))), (2, .int z_65.1), (1, .int z_17.1), (0, .ref h_t)]) hx hb dX9_laysPoly_108 hl (k := 0) rfl (congrArg (fun q => z_74.1 + q) (show Int32.ofInt (1) = (nI 1) by decide)) (by decide) rfl (fun ls hl => ?_)
                        refine lv_goto (tgt := 74) hx hb dX9_laysPoly_111 (by decide) ?_
                        obtain rfl := Option.some.inj hM
                        exact ih _ hX _ _ _ hP hD hS (lv_sub hl [0, 1, 2, 3] rfl)
                exact hL_74 n _ hn _ _ _ hP hD hS (lv_sub hl [0, 1, 2, 3] rfl)
          exact hL_65 n _ hn _ _ _ hP hD hS (lv_sub hl [0, 1, 2] rfl)
        clear hM
        have hL_32 : ∀ (n : Nat) (z_32 : Int32 × (Nat → Int64) × (Nat → Int64)), it b_X9_laysPoly_32 n z_32 = some r_32 → ∀ (H : Heap) (locs : List Loc) (ls : Array Slot), va_P (gD g) vwCl [ob h_t 9 [.ref h_t_now, .ref h_t_read, .ref h_t_past, .int t_saved, .ref h_t_text, .int t_letters, .int t_stage, .ref h_t_part, .int t_size, .ref h_t_matrix, .ref h_t_power, .ref h_t_product, .ref h_t_poly, .ref h_t_old, .ref h_t_step, .ref h_t_column, .ref h_t_moved, .ref h_t_traces, .ref h_t_signed, .ref h_t_plus, .ref h_t_minus, .ref h_t_walk], aJ g h_t_matrix 324 a_t_matrix, aJ g h_t_poly 19 z_32.2.1, aJ g h_t_old 19 z_32.2.2, aJ g h_t_step 20 q_27.1, aJ g h_t_column 18 q_27.2.1, aJ g h_t_moved 18 q_27.2.2] H → va_D A [ob h_t 9 [.ref h_t_now, .ref h_t_read, .ref h_t_past, .int t_saved, .ref h_t_text, .int t_letters, .int t_stage, .ref h_t_part, .int t_size, .ref h_t_matrix, .ref h_t_power, .ref h_t_product, .ref h_t_poly, .ref h_t_old, .ref h_t_step, .ref h_t_column, .ref h_t_moved, .ref h_t_traces, .ref h_t_signed, .ref h_t_plus, .ref h_t_minus, .ref h_t_walk], aJ g h_t_matrix 324 a_t_matrix, aJ g h_t_poly 19 z_32.2.1, aJ g h_t_old 19 z_32.2.2, aJ g h_t_step 20 q_27.1, aJ g h_t_column 18 q_27.2.1, aJ g h_t_moved 18 q_27.2.2] → va_S A s.heap H locs → lv_has ls 4 [(2, .int z_32.1), (1, .int z_17.1), (0, .ref h_t)] → W p l e (rmv 1 26) s m args below meth c H locs 0 0 Q (F0 m 32 ls []) := by
          intro n
          induction n with
          | zero => intro z_32 hn; exact (it_zero hn).elim
          | succ n ih =>
            intro z_32 hn H locs ls hP hD hS hl
            obtain ⟨x, hM, hX⟩ := it_succ hn
            clear hn
            refine lv_iload_n hx hb dX9_laysPoly_32 rfl (lv_at hl 0 rfl) ?_
            refine lv_bipush (v := (nI 19)) hx hb dX9_laysPoly_33 (by decide) ?_
            refine lv_icmp_ge (tgt := 63) hx hb dX9_laysPoly_35 (by decide) (fun c_35 => ?_) (fun c_35 => ?_)
            · have hM := if_t hM c_35
              obtain rfl := Option.some.inj hM
              obtain rfl : _ = r_32 := hX
              exact hE_32_0 _ _ _ hP hD hS (lv_sub hl [1, 2] rfl)
            · have hM := if_f hM c_35
              refine lv_aload_n hx hb dX9_laysPoly_38 rfl (lv_at hl 2 rfl) ?_
              refine w_get cx hP 0 9 13 rfl rfl (by decide) m_657 rfl rfl dX9_laysPoly_39 ?_
              refine lv_iload_n hx hb dX9_laysPoly_42 rfl (lv_at hl 0 rfl) ?_
              refine lv_aload_n hx hb dX9_laysPoly_43 rfl (lv_at hl 2 rfl) ?_
              refine w_get cx hP 0 9 12 rfl rfl (by decide) m_656 rfl rfl dX9_laysPoly_44 ?_
              refine lv_iload_n hx hb dX9_laysPoly_47 rfl (lv_at hl 0 rfl) ?_
              obtain ⟨g_48, hM⟩ := gd_some hM
              refine w_lald cx hP 2 rfl g_48 dX9_laysPoly_48 ?_
              obtain ⟨g_49, hM⟩ := gd_some hM
              refine w_last cx hP hD hS 3 rfl g_49 dX9_laysPoly_49 [ob h_t 9 [.ref h_t_now, .ref h_t_read, .ref h_t_past, .int t_saved, .ref h_t_text, .int t_letters, .int t_stage, .ref h_t_part, .int t_size, .ref h_t_matrix, .ref h_t_power, .ref h_t_product, .ref h_t_poly, .ref h_t_old, .ref h_t_step, .ref h_t_column, .ref h_t_moved, .ref h_t_traces, .ref h_t_signed, .ref h_t_plus, .ref h_t_minus, .ref h_t_walk], aJ g h_t_matrix 324 a_t_matrix, aJ g h_t_poly 19 z_32.2.1, aJ g h_t_old 19 (vp_updL z_32.2.2 z_32.1.toNatClampNeg (z_32.2.1 z_32.1.toNatClampNeg)), aJ g h_t_step 20 q_27.1, aJ g h_t_column 18 q_27.2.1, aJ g h_t_moved 18 q_27.2.2] rfl (fun H locs hP hD hS => ?_)
              refine lv_aload_n hx hb dX9_laysPoly_50 rfl (lv_at hl 2 rfl) ?_
              refine w_get cx hP 0 9 12 rfl rfl (by decide) m_656 rfl rfl dX9_laysPoly_51 ?_
              refine lv_iload_n hx hb dX9_laysPoly_54 rfl (lv_at hl 0 rfl) ?_
              refine lv_lconst (v := (0 : Int64)) hx hb dX9_laysPoly_55 (by decide) ?_
              obtain ⟨g_56, hM⟩ := gd_some hM
              refine w_last cx hP hD hS 2 rfl g_56 dX9_laysPoly_56 [ob h_t 9 [.ref h_t_now, .ref h_t_read, .ref h_t_past, .int t_saved, .ref h_t_text, .int t_letters, .int t_stage, .ref h_t_part, .int t_size, .ref h_t_matrix, .ref h_t_power, .ref h_t_product, .ref h_t_poly, .ref h_t_old, .ref h_t_step, .ref h_t_column, .ref h_t_moved, .ref h_t_traces, .ref h_t_signed, .ref h_t_plus, .ref h_t_minus, .ref h_t_walk], aJ g h_t_matrix 324 a_t_matrix, aJ g h_t_poly 19 (vp_updL z_32.2.1 z_32.1.toNatClampNeg (0 : Int64)), aJ g h_t_old 19 (vp_updL z_32.2.2 z_32.1.toNatClampNeg (z_32.2.1 z_32.1.toNatClampNeg)), aJ g h_t_step 20 q_27.1, aJ g h_t_column 18 q_27.2.1, aJ g h_t_moved 18 q_27.2.2] rfl (fun H locs hP hD hS => ?_)
              refine lv_iinc (v := z_32.1 + (nI 1)) (lv' := [(2, .int (z_32.1 + (nI 1))), (1, .int z_17.1), (0, .ref h_t)]) hx hb dX9_laysPoly_57 hl (k := 0) rfl (congrArg (fun q => z_32.1 + q) (show Int32.ofInt (1) = (nI 1) by decide)) (by decide) rfl (fun ls hl => ?_)
              refine lv_goto (tgt := 32) hx hb dX9_laysPoly_60 (by decide) ?_
              obtain rfl := Option.some.inj hM
              exact ih _ hX _ _ _ hP hD hS (lv_sub hl [0, 1, 2] rfl)
        exact hL_32 n _ hn _ _ _ hP hD hS (lv_sub hl [0, 1, 2] rfl)
  exact hL_17 n _ hn _ _ _ hP hD hS (lv_sub hl [0, 1] rfl)
noncomputable def f_X9_laysEdgePoly (t_saved : Int32) (t_letters : Int32) (t_stage : Int32) (t_size : Int32) (a_t_now : Nat → Int32) (a_t_matrix : Nat → Int64) (a_t_poly : Nat → Int64) (a_t_old : Nat → Int64) (a_t_step : Nat → Int64) (a_t_column : Nat → Int64) (a_t_moved : Nat → Int64) : Option (Int32 × (Nat → Int64) × (Nat → Int64) × (Nat → Int64) × (Nat → Int64) × (Nat → Int64) × (Nat → Int64)) :=
  bd (f_X9_laysEdges (nI 0) t_saved t_letters t_stage t_size a_t_now a_t_matrix) (fun (q_2 : Int32 × (Nat → Int64)) => bd (f_X9_laysPoly t_saved t_letters t_stage q_2.1 q_2.2 a_t_poly a_t_old a_t_step a_t_column a_t_moved) (fun (q_6 : (Nat → Int64) × (Nat → Int64) × (Nat → Int64) × (Nat → Int64) × (Nat → Int64)) => some (q_2.1, q_2.2, q_6.1, q_6.2.1, q_6.2.2.1, q_6.2.2.2.1, q_6.2.2.2.2)))
theorem yq_X9_laysEdgePoly : yq yX9_laysEdgePoly 0 := by unfold yq; decide +kernel
set_option maxHeartbeats 4000000 in
set_option maxRecDepth 100000 in
theorem c_X9_laysEdgePoly (g : GG) (l : Launch) (h_t : Nat) (h_t_now : Nat) (h_t_read : Nat) (h_t_past : Nat) (h_t_text : Nat) (h_t_part : Nat) (h_t_matrix : Nat) (h_t_power : Nat) (h_t_product : Nat) (h_t_poly : Nat) (h_t_old : Nat) (h_t_step : Nat) (h_t_column : Nat) (h_t_moved : Nat) (h_t_traces : Nat) (h_t_signed : Nat) (h_t_plus : Nat) (h_t_minus : Nat) (h_t_walk : Nat) (t_saved : Int32) (t_letters : Int32) (t_stage : Int32) (t_size : Int32) (a_t_now : Nat → Int32) (a_t_matrix : Nat → Int64) (a_t_poly : Nat → Int64) (a_t_old : Nat → Int64) (a_t_step : Nat → Int64) (a_t_column : Nat → Int64) (a_t_moved : Nat → Int64) {R : Int32 × (Nat → Int64) × (Nat → Int64) × (Nat → Int64) × (Nat → Int64) × (Nat → Int64) × (Nat → Int64)} (hM : f_X9_laysEdgePoly t_saved t_letters t_stage t_size a_t_now a_t_matrix a_t_poly a_t_old a_t_step a_t_column a_t_moved = some R) : CT g l yX9_laysEdgePoly cX9_laysEdgePoly 1 none 3 69 [.ref h_t] [ob h_t 9 [.ref h_t_now, .ref h_t_read, .ref h_t_past, .int t_saved, .ref h_t_text, .int t_letters, .int t_stage, .ref h_t_part, .int t_size, .ref h_t_matrix, .ref h_t_power, .ref h_t_product, .ref h_t_poly, .ref h_t_old, .ref h_t_step, .ref h_t_column, .ref h_t_moved, .ref h_t_traces, .ref h_t_signed, .ref h_t_plus, .ref h_t_minus, .ref h_t_walk], aI g h_t_now 29 a_t_now, aJ g h_t_matrix 324 a_t_matrix, aJ g h_t_poly 19 a_t_poly, aJ g h_t_old 19 a_t_old, aJ g h_t_step 20 a_t_step, aJ g h_t_column 18 a_t_column, aJ g h_t_moved 18 a_t_moved] [ob h_t 9 [.ref h_t_now, .ref h_t_read, .ref h_t_past, .int t_saved, .ref h_t_text, .int t_letters, .int t_stage, .ref h_t_part, .int R.1, .ref h_t_matrix, .ref h_t_power, .ref h_t_product, .ref h_t_poly, .ref h_t_old, .ref h_t_step, .ref h_t_column, .ref h_t_moved, .ref h_t_traces, .ref h_t_signed, .ref h_t_plus, .ref h_t_minus, .ref h_t_walk], aI g h_t_now 29 a_t_now, aJ g h_t_matrix 324 R.2.1, aJ g h_t_poly 19 R.2.2.1, aJ g h_t_old 19 R.2.2.2.1, aJ g h_t_step 20 R.2.2.2.2.1, aJ g h_t_column 18 R.2.2.2.2.2.1, aJ g h_t_moved 18 R.2.2.2.2.2.2] none := by
  refine ct_v (by decide +kernel) (Nat.le_of_ble_eq_true rfl) ?_
  intro p e s m args below meth c Q A ls cx hP hD hA hl hfin
  obtain ⟨hx, hb, hml, hown, hts, hK⟩ := id cx
  have hl : lv_has ls 1 [(0, .ref h_t)] := hl
  have hS : va_S A s.heap s.heap [] := va_S.rf
  refine lv_aload_n hx hb dX9_laysEdgePoly_0 rfl (lv_at hl 0 rfl) ?_
  refine lv_iconst (v := (nI 0)) hx hb dX9_laysEdgePoly_1 (by decide) ?_
  obtain ⟨q_2, hc_2, hM⟩ := bd_some hM
  refine w_callV cx hP hD hS hA (c_X9_laysEdges g l h_t h_t_now h_t_read h_t_past h_t_text h_t_part h_t_matrix h_t_power h_t_product h_t_poly h_t_old h_t_step h_t_column h_t_moved h_t_traces h_t_signed h_t_plus h_t_minus h_t_walk (nI 0) t_saved t_letters t_stage t_size a_t_now a_t_matrix hc_2) [0, 1, 2] rfl (by decide) rfl [ob h_t 9 [.ref h_t_now, .ref h_t_read, .ref h_t_past, .int t_saved, .ref h_t_text, .int t_letters, .int t_stage, .ref h_t_part, .int q_2.1, .ref h_t_matrix, .ref h_t_power, .ref h_t_product, .ref h_t_poly, .ref h_t_old, .ref h_t_step, .ref h_t_column, .ref h_t_moved, .ref h_t_traces, .ref h_t_signed, .ref h_t_plus, .ref h_t_minus, .ref h_t_walk], aI g h_t_now 29 a_t_now, aJ g h_t_matrix 324 q_2.2, aJ g h_t_poly 19 a_t_poly, aJ g h_t_old 19 a_t_old, aJ g h_t_step 20 a_t_step, aJ g h_t_column 18 a_t_column, aJ g h_t_moved 18 a_t_moved] rfl 0 9 rfl rfl yq_X9_laysEdges rfl m_837 m_839 m_29 m_51 m_840 ⟨Nat.le_of_ble_eq_true rfl, Nat.le_of_ble_eq_true rfl⟩ rfl rfl hl.1 (Nat.le_of_ble_eq_true rfl) dX9_laysEdgePoly_2 ⟨Nat.le_refl 0, Nat.le_refl 0⟩ rfl (fun H locs hP hD hS => ?_)
  refine lv_aload_n hx hb dX9_laysEdgePoly_5 rfl (lv_at hl 0 rfl) ?_
  obtain ⟨q_6, hc_6, hM⟩ := bd_some hM
  refine w_callV cx hP hD hS hA (c_X9_laysPoly g l h_t h_t_now h_t_read h_t_past h_t_text h_t_part h_t_matrix h_t_power h_t_product h_t_poly h_t_old h_t_step h_t_column h_t_moved h_t_traces h_t_signed h_t_plus h_t_minus h_t_walk t_saved t_letters t_stage q_2.1 q_2.2 a_t_poly a_t_old a_t_step a_t_column a_t_moved hc_6) [0, 2, 3, 4, 5, 6, 7] rfl (by decide) rfl [ob h_t 9 [.ref h_t_now, .ref h_t_read, .ref h_t_past, .int t_saved, .ref h_t_text, .int t_letters, .int t_stage, .ref h_t_part, .int q_2.1, .ref h_t_matrix, .ref h_t_power, .ref h_t_product, .ref h_t_poly, .ref h_t_old, .ref h_t_step, .ref h_t_column, .ref h_t_moved, .ref h_t_traces, .ref h_t_signed, .ref h_t_plus, .ref h_t_minus, .ref h_t_walk], aI g h_t_now 29 a_t_now, aJ g h_t_matrix 324 q_2.2, aJ g h_t_poly 19 q_6.1, aJ g h_t_old 19 q_6.2.1, aJ g h_t_step 20 q_6.2.2.1, aJ g h_t_column 18 q_6.2.2.2.1, aJ g h_t_moved 18 q_6.2.2.2.2] rfl 0 9 rfl rfl yq_X9_laysPoly rfl m_899 m_901 m_35 m_51 m_902 ⟨Nat.le_of_ble_eq_true rfl, Nat.le_of_ble_eq_true rfl⟩ rfl rfl hl.1 (Nat.le_of_ble_eq_true rfl) dX9_laysEdgePoly_6 ⟨Nat.le_refl 0, Nat.le_refl 0⟩ rfl (fun H locs hP hD hS => ?_)
  obtain rfl := Option.some.inj hM
  exact hfin 9 _ _ _ dX9_laysEdgePoly_9 hP hD hS
noncomputable def b_X9_laysBassPoly_76 : Int32 × (Nat → Int64) → Option ((Int32 × (Nat → Int64)) ⊕ ((Nat → Int64))) := fun z_76 =>
  if (nI 19) ≤ z_76.1 then some (.inr z_76.2) else gd (inb z_76.1 19) (gd (inb (z_76.1 - (nI 2)) 19) (gd (inb z_76.1 19) (some (.inl (z_76.1 + (nI 1), vp_updL z_76.2 z_76.1.toNatClampNeg ((z_76.2 z_76.1.toNatClampNeg) + (z_76.2 (z_76.1 - (nI 2)).toNatClampNeg)))))))
noncomputable def b_X9_laysBassPoly_68 (x_21 : Int32) : Int32 × (Nat → Int64) → Option ((Int32 × (Nat → Int64)) ⊕ ((Nat → Int64))) := fun z_68 =>
  if (-x_21) ≤ z_68.1 then some (.inr z_68.2) else bd (wh b_X9_laysBassPoly_76 ((nI 2), z_68.2)) (fun (r_76 : Nat → Int64) => some (.inl (z_68.1 + (nI 1), r_76)))
noncomputable def b_X9_laysBassPoly_32 : Int32 × (Nat → Int64) → Option ((Int32 × (Nat → Int64)) ⊕ ((Nat → Int64))) := fun z_32 =>
  if z_32.1 ≤ (nI 1) then some (.inr z_32.2) else gd (inb z_32.1 19) (gd (inb (z_32.1 - (nI 2)) 19) (gd (inb z_32.1 19) (nm (z_32.1 + (nI 4294967295)) (fun (x_54 : Int32) => some (.inl (x_54, vp_updL z_32.2 z_32.1.toNatClampNeg ((z_32.2 z_32.1.toNatClampNeg) - (z_32.2 (z_32.1 - (nI 2)).toNatClampNeg))))))))
noncomputable def b_X9_laysBassPoly_24 (x_21 : Int32) : Int32 × (Nat → Int64) → Option ((Int32 × (Nat → Int64)) ⊕ ((Nat → Int64))) := fun z_24 =>
  if x_21 ≤ z_24.1 then some (.inr z_24.2) else bd (wh b_X9_laysBassPoly_32 ((nI 18), z_24.2)) (fun (r_32 : Nat → Int64) => some (.inl (z_24.1 + (nI 1), r_32)))
noncomputable def f_X9_laysBassPoly (t_saved : Int32) (t_letters : Int32) (t_stage : Int32) (t_size : Int32) (a_t_now : Nat → Int32) (a_t_matrix : Nat → Int64) (a_t_poly : Nat → Int64) (a_t_old : Nat → Int64) (a_t_step : Nat → Int64) (a_t_column : Nat → Int64) (a_t_moved : Nat → Int64) : Option (Int32 × (Nat → Int64) × (Nat → Int64) × (Nat → Int64) × (Nat → Int64) × (Nat → Int64) × (Nat → Int64)) :=
  bd (f_X9_laysVertices t_saved t_letters t_stage t_size a_t_now a_t_matrix) (fun (q_1 : Int32 × (Nat → Int64)) => bd (f_X9_laysPoly t_saved t_letters t_stage q_1.1 q_1.2 a_t_poly a_t_old a_t_step a_t_column a_t_moved) (fun (q_5 : (Nat → Int64) × (Nat → Int64) × (Nat → Int64) × (Nat → Int64) × (Nat → Int64)) => gd (inb (nI 1) 29) (gd (inb (nI 0) 29) (nm ((a_t_now (nI 1).toNatClampNeg) - (a_t_now (nI 0).toNatClampNeg)) (fun (x_21 : Int32) => bd (wh (b_X9_laysBassPoly_24 x_21) ((nI 0), q_5.1)) (fun (r_24 : Nat → Int64) => bd (wh (b_X9_laysBassPoly_68 x_21) ((nI 0), r_24)) (fun (r_68 : Nat → Int64) => some (q_1.1, q_1.2, r_68, q_5.2.1, q_5.2.2.1, q_5.2.2.2.1, q_5.2.2.2.2))))))))
theorem yq_X9_laysBassPoly : yq yX9_laysBassPoly 0 := by unfold yq; decide +kernel
set_option maxHeartbeats 4000000 in
set_option maxRecDepth 100000 in
theorem c_X9_laysBassPoly (g : GG) (l : Launch) (h_t : Nat) (h_t_now : Nat) (h_t_read : Nat) (h_t_past : Nat) (h_t_text : Nat) (h_t_part : Nat) (h_t_matrix : Nat) (h_t_power : Nat) (h_t_product : Nat) (h_t_poly : Nat) (h_t_old : Nat) (h_t_step : Nat) (h_t_column : Nat) (h_t_moved : Nat) (h_t_traces : Nat) (h_t_signed : Nat) (h_t_plus : Nat) (h_t_minus : Nat) (h_t_walk : Nat) (t_saved : Int32) (t_letters : Int32) (t_stage : Int32) (t_size : Int32) (a_t_now : Nat → Int32) (a_t_matrix : Nat → Int64) (a_t_poly : Nat → Int64) (a_t_old : Nat → Int64) (a_t_step : Nat → Int64) (a_t_column : Nat → Int64) (a_t_moved : Nat → Int64) {R : Int32 × (Nat → Int64) × (Nat → Int64) × (Nat → Int64) × (Nat → Int64) × (Nat → Int64) × (Nat → Int64)} (hM : f_X9_laysBassPoly t_saved t_letters t_stage t_size a_t_now a_t_matrix a_t_poly a_t_old a_t_step a_t_column a_t_moved = some R) : CT g l yX9_laysBassPoly cX9_laysBassPoly 4 none 3 67 [.ref h_t] [ob h_t 9 [.ref h_t_now, .ref h_t_read, .ref h_t_past, .int t_saved, .ref h_t_text, .int t_letters, .int t_stage, .ref h_t_part, .int t_size, .ref h_t_matrix, .ref h_t_power, .ref h_t_product, .ref h_t_poly, .ref h_t_old, .ref h_t_step, .ref h_t_column, .ref h_t_moved, .ref h_t_traces, .ref h_t_signed, .ref h_t_plus, .ref h_t_minus, .ref h_t_walk], aI g h_t_now 29 a_t_now, aJ g h_t_matrix 324 a_t_matrix, aJ g h_t_poly 19 a_t_poly, aJ g h_t_old 19 a_t_old, aJ g h_t_step 20 a_t_step, aJ g h_t_column 18 a_t_column, aJ g h_t_moved 18 a_t_moved] [ob h_t 9 [.ref h_t_now, .ref h_t_read, .ref h_t_past, .int t_saved, .ref h_t_text, .int t_letters, .int t_stage, .ref h_t_part, .int R.1, .ref h_t_matrix, .ref h_t_power, .ref h_t_product, .ref h_t_poly, .ref h_t_old, .ref h_t_step, .ref h_t_column, .ref h_t_moved, .ref h_t_traces, .ref h_t_signed, .ref h_t_plus, .ref h_t_minus, .ref h_t_walk], aI g h_t_now 29 a_t_now, aJ g h_t_matrix 324 R.2.1, aJ g h_t_poly 19 R.2.2.1, aJ g h_t_old 19 R.2.2.2.1, aJ g h_t_step 20 R.2.2.2.2.1, aJ g h_t_column 18 R.2.2.2.2.2.1, aJ g h_t_moved 18 R.2.2.2.2.2.2] none := by
  refine ct_v (by decide +kernel) (Nat.le_of_ble_eq_true rfl) ?_
  intro p e s m args below meth c Q A ls cx hP hD hA hl hfin
  obtain ⟨hx, hb, hml, hown, hts, hK⟩ := id cx
  have hl : lv_has ls 4 [(0, .ref h_t)] := hl
  have hS : va_S A s.heap s.heap [] := va_S.rf
  refine lv_aload_n hx hb dX9_laysBassPoly_0 rfl (lv_at hl 0 rfl) ?_
  obtain ⟨q_1, hc_1, hM⟩ := bd_some hM
  refine w_callV cx hP hD hS hA (c_X9_laysVertices g l h_t h_t_now h_t_read h_t_past h_t_text h_t_part h_t_matrix h_t_power h_t_product h_t_poly h_t_old h_t_step h_t_column h_t_moved h_t_traces h_t_signed h_t_plus h_t_minus h_t_walk t_saved t_letters t_stage t_size a_t_now a_t_matrix hc_1) [0, 1, 2] rfl (by decide) rfl [ob h_t 9 [.ref h_t_now, .ref h_t_read, .ref h_t_past, .int t_saved, .ref h_t_text, .int t_letters, .int t_stage, .ref h_t_part, .int q_1.1, .ref h_t_matrix, .ref h_t_power, .ref h_t_product, .ref h_t_poly, .ref h_t_old, .ref h_t_step, .ref h_t_column, .ref h_t_moved, .ref h_t_traces, .ref h_t_signed, .ref h_t_plus, .ref h_t_minus, .ref h_t_walk], aI g h_t_now 29 a_t_now, aJ g h_t_matrix 324 q_1.2, aJ g h_t_poly 19 a_t_poly, aJ g h_t_old 19 a_t_old, aJ g h_t_step 20 a_t_step, aJ g h_t_column 18 a_t_column, aJ g h_t_moved 18 a_t_moved] rfl 0 9 rfl rfl yq_X9_laysVertices rfl m_919 m_921 m_38 m_51 m_922 ⟨Nat.le_of_ble_eq_true rfl, Nat.le_of_ble_eq_true rfl⟩ rfl rfl hl.1 (Nat.le_of_ble_eq_true rfl) dX9_laysBassPoly_1 ⟨Nat.le_refl 0, Nat.le_refl 0⟩ rfl (fun H locs hP hD hS => ?_)
  refine lv_aload_n hx hb dX9_laysBassPoly_4 rfl (lv_at hl 0 rfl) ?_
  obtain ⟨q_5, hc_5, hM⟩ := bd_some hM
  refine w_callV cx hP hD hS hA (c_X9_laysPoly g l h_t h_t_now h_t_read h_t_past h_t_text h_t_part h_t_matrix h_t_power h_t_product h_t_poly h_t_old h_t_step h_t_column h_t_moved h_t_traces h_t_signed h_t_plus h_t_minus h_t_walk t_saved t_letters t_stage q_1.1 q_1.2 a_t_poly a_t_old a_t_step a_t_column a_t_moved hc_5) [0, 2, 3, 4, 5, 6, 7] rfl (by decide) rfl [ob h_t 9 [.ref h_t_now, .ref h_t_read, .ref h_t_past, .int t_saved, .ref h_t_text, .int t_letters, .int t_stage, .ref h_t_part, .int q_1.1, .ref h_t_matrix, .ref h_t_power, .ref h_t_product, .ref h_t_poly, .ref h_t_old, .ref h_t_step, .ref h_t_column, .ref h_t_moved, .ref h_t_traces, .ref h_t_signed, .ref h_t_plus, .ref h_t_minus, .ref h_t_walk], aI g h_t_now 29 a_t_now, aJ g h_t_matrix 324 q_1.2, aJ g h_t_poly 19 q_5.1, aJ g h_t_old 19 q_5.2.1, aJ g h_t_step 20 q_5.2.2.1, aJ g h_t_column 18 q_5.2.2.2.1, aJ g h_t_moved 18 q_5.2.2.2.2] rfl 0 9 rfl rfl yq_X9_laysPoly rfl m_899 m_901 m_35 m_51 m_902 ⟨Nat.le_of_ble_eq_true rfl, Nat.le_of_ble_eq_true rfl⟩ rfl rfl hl.1 (Nat.le_of_ble_eq_true rfl) dX9_laysBassPoly_5 ⟨Nat.le_refl 0, Nat.le_refl 0⟩ rfl (fun H locs hP hD hS => ?_)
  refine lv_aload_n hx hb dX9_laysBassPoly_8 rfl (lv_at hl 0 rfl) ?_
  refine w_get cx hP 0 9 0 rfl rfl (by decide) m_644 rfl rfl dX9_laysBassPoly_9 ?_
  refine lv_iconst (v := (nI 1)) hx hb dX9_laysBassPoly_12 (by decide) ?_
  obtain ⟨g_13, hM⟩ := gd_some hM
  refine w_iald cx hP 1 rfl g_13 dX9_laysBassPoly_13 ?_
  refine lv_aload_n hx hb dX9_laysBassPoly_14 rfl (lv_at hl 0 rfl) ?_
  refine w_get cx hP 0 9 0 rfl rfl (by decide) m_644 rfl rfl dX9_laysBassPoly_15 ?_
  refine lv_iconst (v := (nI 0)) hx hb dX9_laysBassPoly_18 (by decide) ?_
  obtain ⟨g_19, hM⟩ := gd_some hM
  refine w_iald cx hP 1 rfl g_19 dX9_laysBassPoly_19 ?_
  refine lv_isub hx hb dX9_laysBassPoly_20 ?_
  refine lv_topi (fun x_21 ex_21 => ?_)
  have hM := nm_some hM x_21 ex_21
  refine lv_istore_n (lv' := [(1, .int x_21), (0, .ref h_t)]) hx hb dX9_laysBassPoly_21 rfl hl (by decide) rfl (fun ls hl => ?_)
  refine lv_iconst (v := (nI 0)) hx hb dX9_laysBassPoly_22 (by decide) ?_
  refine lv_istore_n (lv' := [(2, .int (nI 0)), (1, .int x_21), (0, .ref h_t)]) hx hb dX9_laysBassPoly_23 rfl hl (by decide) rfl (fun ls hl => ?_)
  obtain ⟨r_24, hw, hM⟩ := bd_some hM
  obtain ⟨n, hn⟩ := wh_some hw
  clear hw
  have hE_24_0 : ∀ (H : Heap) (locs : List Loc) (ls : Array Slot), va_P (gD g) vwCl [ob h_t 9 [.ref h_t_now, .ref h_t_read, .ref h_t_past, .int t_saved, .ref h_t_text, .int t_letters, .int t_stage, .ref h_t_part, .int q_1.1, .ref h_t_matrix, .ref h_t_power, .ref h_t_product, .ref h_t_poly, .ref h_t_old, .ref h_t_step, .ref h_t_column, .ref h_t_moved, .ref h_t_traces, .ref h_t_signed, .ref h_t_plus, .ref h_t_minus, .ref h_t_walk], aI g h_t_now 29 a_t_now, aJ g h_t_matrix 324 q_1.2, aJ g h_t_poly 19 r_24, aJ g h_t_old 19 q_5.2.1, aJ g h_t_step 20 q_5.2.2.1, aJ g h_t_column 18 q_5.2.2.2.1, aJ g h_t_moved 18 q_5.2.2.2.2] H → va_D A [ob h_t 9 [.ref h_t_now, .ref h_t_read, .ref h_t_past, .int t_saved, .ref h_t_text, .int t_letters, .int t_stage, .ref h_t_part, .int q_1.1, .ref h_t_matrix, .ref h_t_power, .ref h_t_product, .ref h_t_poly, .ref h_t_old, .ref h_t_step, .ref h_t_column, .ref h_t_moved, .ref h_t_traces, .ref h_t_signed, .ref h_t_plus, .ref h_t_minus, .ref h_t_walk], aI g h_t_now 29 a_t_now, aJ g h_t_matrix 324 q_1.2, aJ g h_t_poly 19 r_24, aJ g h_t_old 19 q_5.2.1, aJ g h_t_step 20 q_5.2.2.1, aJ g h_t_column 18 q_5.2.2.2.1, aJ g h_t_moved 18 q_5.2.2.2.2] → va_S A s.heap H locs → lv_has ls 4 [(1, .int x_21), (0, .ref h_t)] → W p l e (rmv 3 67) s m args below meth c H locs 0 0 Q (F0 m 66 ls []) := by
    intro H locs ls hP hD hS hl
    refine lv_iconst (v := (nI 0)) hx hb dX9_laysBassPoly_66 (by decide) ?_
    refine lv_istore_n (lv' := [(2, .int (nI 0)), (1, .int x_21), (0, .ref h_t)]) hx hb dX9_laysBassPoly_67 rfl hl (by decide) rfl (fun ls hl => ?_)
    obtain ⟨r_68, hw, hM⟩ := bd_some hM
    obtain ⟨n, hn⟩ := wh_some hw
    clear hw
    have hE_68_0 : ∀ (H : Heap) (locs : List Loc) (ls : Array Slot), va_P (gD g) vwCl [ob h_t 9 [.ref h_t_now, .ref h_t_read, .ref h_t_past, .int t_saved, .ref h_t_text, .int t_letters, .int t_stage, .ref h_t_part, .int q_1.1, .ref h_t_matrix, .ref h_t_power, .ref h_t_product, .ref h_t_poly, .ref h_t_old, .ref h_t_step, .ref h_t_column, .ref h_t_moved, .ref h_t_traces, .ref h_t_signed, .ref h_t_plus, .ref h_t_minus, .ref h_t_walk], aI g h_t_now 29 a_t_now, aJ g h_t_matrix 324 q_1.2, aJ g h_t_poly 19 r_68, aJ g h_t_old 19 q_5.2.1, aJ g h_t_step 20 q_5.2.2.1, aJ g h_t_column 18 q_5.2.2.2.1, aJ g h_t_moved 18 q_5.2.2.2.2] H → va_D A [ob h_t 9 [.ref h_t_now, .ref h_t_read, .ref h_t_past, .int t_saved, .ref h_t_text, .int t_letters, .int t_stage, .ref h_t_part, .int q_1.1, .ref h_t_matrix, .ref h_t_power, .ref h_t_product, .ref h_t_poly, .ref h_t_old, .ref h_t_step, .ref h_t_column, .ref h_t_moved, .ref h_t_traces, .ref h_t_signed, .ref h_t_plus, .ref h_t_minus, .ref h_t_walk], aI g h_t_now 29 a_t_now, aJ g h_t_matrix 324 q_1.2, aJ g h_t_poly 19 r_68, aJ g h_t_old 19 q_5.2.1, aJ g h_t_step 20 q_5.2.2.1, aJ g h_t_column 18 q_5.2.2.2.1, aJ g h_t_moved 18 q_5.2.2.2.2] → va_S A s.heap H locs → lv_has ls 4 [] → W p l e (rmv 3 67) s m args below meth c H locs 0 0 Q (F0 m 111 ls []) := by
      intro H locs ls hP hD hS hl
      obtain rfl := Option.some.inj hM
      exact hfin 111 _ _ _ dX9_laysBassPoly_111 hP hD hS
    clear hM
    have hL_68 : ∀ (n : Nat) (z_68 : Int32 × (Nat → Int64)), it (b_X9_laysBassPoly_68 x_21) n z_68 = some r_68 → ∀ (H : Heap) (locs : List Loc) (ls : Array Slot), va_P (gD g) vwCl [ob h_t 9 [.ref h_t_now, .ref h_t_read, .ref h_t_past, .int t_saved, .ref h_t_text, .int t_letters, .int t_stage, .ref h_t_part, .int q_1.1, .ref h_t_matrix, .ref h_t_power, .ref h_t_product, .ref h_t_poly, .ref h_t_old, .ref h_t_step, .ref h_t_column, .ref h_t_moved, .ref h_t_traces, .ref h_t_signed, .ref h_t_plus, .ref h_t_minus, .ref h_t_walk], aI g h_t_now 29 a_t_now, aJ g h_t_matrix 324 q_1.2, aJ g h_t_poly 19 z_68.2, aJ g h_t_old 19 q_5.2.1, aJ g h_t_step 20 q_5.2.2.1, aJ g h_t_column 18 q_5.2.2.2.1, aJ g h_t_moved 18 q_5.2.2.2.2] H → va_D A [ob h_t 9 [.ref h_t_now, .ref h_t_read, .ref h_t_past, .int t_saved, .ref h_t_text, .int t_letters, .int t_stage, .ref h_t_part, .int q_1.1, .ref h_t_matrix, .ref h_t_power, .ref h_t_product, .ref h_t_poly, .ref h_t_old, .ref h_t_step, .ref h_t_column, .ref h_t_moved, .ref h_t_traces, .ref h_t_signed, .ref h_t_plus, .ref h_t_minus, .ref h_t_walk], aI g h_t_now 29 a_t_now, aJ g h_t_matrix 324 q_1.2, aJ g h_t_poly 19 z_68.2, aJ g h_t_old 19 q_5.2.1, aJ g h_t_step 20 q_5.2.2.1, aJ g h_t_column 18 q_5.2.2.2.1, aJ g h_t_moved 18 q_5.2.2.2.2] → va_S A s.heap H locs → lv_has ls 4 [(2, .int z_68.1), (1, .int x_21), (0, .ref h_t)] → W p l e (rmv 3 67) s m args below meth c H locs 0 0 Q (F0 m 68 ls []) := by
      intro n
      induction n with
      | zero => intro z_68 hn; exact (it_zero hn).elim
      | succ n ih =>
        intro z_68 hn H locs ls hP hD hS hl
        obtain ⟨x, hM, hX⟩ := it_succ hn
        clear hn
        refine lv_iload_n hx hb dX9_laysBassPoly_68 rfl (lv_at hl 0 rfl) ?_
        refine lv_iload_n hx hb dX9_laysBassPoly_69 rfl (lv_at hl 1 rfl) ?_
        refine lv_ineg hx hb dX9_laysBassPoly_70 ?_
        refine lv_icmp_ge (tgt := 111) hx hb dX9_laysBassPoly_71 (by decide) (fun c_71 => ?_) (fun c_71 => ?_)
        · have hM := if_t hM c_71
          obtain rfl := Option.some.inj hM
          obtain rfl : _ = r_68 := hX
          exact hE_68_0 _ _ _ hP hD hS (lv_sub hl [] rfl)
        · have hM := if_f hM c_71
          refine lv_iconst (v := (nI 2)) hx hb dX9_laysBassPoly_74 (by decide) ?_
          refine lv_istore_n (lv' := [(3, .int (nI 2)), (2, .int z_68.1), (1, .int x_21), (0, .ref h_t)]) hx hb dX9_laysBassPoly_75 rfl hl (by decide) rfl (fun ls hl => ?_)
          obtain ⟨r_76, hw, hM⟩ := bd_some hM
          obtain ⟨n, hn⟩ := wh_some hw
          clear hw
          have hE_76_0 : ∀ (H : Heap) (locs : List Loc) (ls : Array Slot), va_P (gD g) vwCl [ob h_t 9 [.ref h_t_now, .ref h_t_read, .ref h_t_past, .int t_saved, .ref h_t_text, .int t_letters, .int t_stage, .ref h_t_part, .int q_1.1, .ref h_t_matrix, .ref h_t_power, .ref h_t_product, .ref h_t_poly, .ref h_t_old, .ref h_t_step, .ref h_t_column, .ref h_t_moved, .ref h_t_traces, .ref h_t_signed, .ref h_t_plus, .ref h_t_minus, .ref h_t_walk], aI g h_t_now 29 a_t_now, aJ g h_t_matrix 324 q_1.2, aJ g h_t_poly 19 r_76, aJ g h_t_old 19 q_5.2.1, aJ g h_t_step 20 q_5.2.2.1, aJ g h_t_column 18 q_5.2.2.2.1, aJ g h_t_moved 18 q_5.2.2.2.2] H → va_D A [ob h_t 9 [.ref h_t_now, .ref h_t_read, .ref h_t_past, .int t_saved, .ref h_t_text, .int t_letters, .int t_stage, .ref h_t_part, .int q_1.1, .ref h_t_matrix, .ref h_t_power, .ref h_t_product, .ref h_t_poly, .ref h_t_old, .ref h_t_step, .ref h_t_column, .ref h_t_moved, .ref h_t_traces, .ref h_t_signed, .ref h_t_plus, .ref h_t_minus, .ref h_t_walk], aI g h_t_now 29 a_t_now, aJ g h_t_matrix 324 q_1.2, aJ g h_t_poly 19 r_76, aJ g h_t_old 19 q_5.2.1, aJ g h_t_step 20 q_5.2.2.1, aJ g h_t_column 18 q_5.2.2.2.1, aJ g h_t_moved 18 q_5.2.2.2.2] → va_S A s.heap H locs → lv_has ls 4 [(2, .int z_68.1), (1, .int x_21), (0, .ref h_t)] → W p l e (rmv 3 67) s m args below meth c H locs 0 0 Q (F0 m 105 ls []) := by
            intro H locs ls hP hD hS hl
            refine lv_iinc (v := z_68.1 + (nI 1)) (lv' := [(2, .int (z_68.1 + (nI 1))), (1, .int x_21), (0, .ref h_t)]) hx hb dX9_laysBassPoly_105 hl (k := 0) rfl (congrArg (fun q => z_68.1 + q) (show Int32.ofInt (1) = (nI 1) by decide)) (by decide) rfl (fun ls hl => ?_)
            refine lv_goto (tgt := 68) hx hb dX9_laysBassPoly_108 (by decide) ?_
            obtain rfl := Option.some.inj hM
            exact ih _ hX _ _ _ hP hD hS (lv_sub hl [0, 1, 2] rfl)
          clear hM
          have hL_76 : ∀ (n : Nat) (z_76 : Int32 × (Nat → Int64)), it b_X9_laysBassPoly_76 n z_76 = some r_76 → ∀ (H : Heap) (locs : List Loc) (ls : Array Slot), va_P (gD g) vwCl [ob h_t 9 [.ref h_t_now, .ref h_t_read, .ref h_t_past, .int t_saved, .ref h_t_text, .int t_letters, .int t_stage, .ref h_t_part, .int q_1.1, .ref h_t_matrix, .ref h_t_power, .ref h_t_product, .ref h_t_poly, .ref h_t_old, .ref h_t_step, .ref h_t_column, .ref h_t_moved, .ref h_t_traces, .ref h_t_signed, .ref h_t_plus, .ref h_t_minus, .ref h_t_walk], aI g h_t_now 29 a_t_now, aJ g h_t_matrix 324 q_1.2, aJ g h_t_poly 19 z_76.2, aJ g h_t_old 19 q_5.2.1, aJ g h_t_step 20 q_5.2.2.1, aJ g h_t_column 18 q_5.2.2.2.1, aJ g h_t_moved 18 q_5.2.2.2.2] H → va_D A [ob h_t 9 [.ref h_t_now, .ref h_t_read, .ref h_t_past, .int t_saved, .ref h_t_text, .int t_letters, .int t_stage, .ref h_t_part, .int q_1.1, .ref h_t_matrix, .ref h_t_power, .ref h_t_product, .ref h_t_poly, .ref h_t_old, .ref h_t_step, .ref h_t_column, .ref h_t_moved, .ref h_t_traces, .ref h_t_signed, .ref h_t_plus, .ref h_t_minus, .ref h_t_walk], aI g h_t_now 29 a_t_now, aJ g h_t_matrix 324 q_1.2, aJ g h_t_poly 19 z_76.2, aJ g h_t_old 19 q_5.2.1, aJ g h_t_step 20 q_5.2.2.1, aJ g h_t_column 18 q_5.2.2.2.1, aJ g h_t_moved 18 q_5.2.2.2.2] → va_S A s.heap H locs → lv_has ls 4 [(3, .int z_76.1), (2, .int z_68.1), (1, .int x_21), (0, .ref h_t)] → W p l e (rmv 3 67) s m args below meth c H locs 0 0 Q (F0 m 76 ls []) := by
            intro n
            induction n with
            | zero => intro z_76 hn; exact (it_zero hn).elim
            | succ n ih =>
              intro z_76 hn H locs ls hP hD hS hl
              obtain ⟨x, hM, hX⟩ := it_succ hn
              clear hn
              refine lv_iload_n hx hb dX9_laysBassPoly_76 rfl (lv_at hl 0 rfl) ?_
              refine lv_bipush (v := (nI 19)) hx hb dX9_laysBassPoly_77 (by decide) ?_
              refine lv_icmp_ge (tgt := 105) hx hb dX9_laysBassPoly_79 (by decide) (fun c_79 => ?_) (fun c_79 => ?_)
              · have hM := if_t hM c_79
                obtain rfl := Option.some.inj hM
                obtain rfl : _ = r_76 := hX
                exact hE_76_0 _ _ _ hP hD hS (lv_sub hl [1, 2, 3] rfl)
              · have hM := if_f hM c_79
                refine lv_aload_n hx hb dX9_laysBassPoly_82 rfl (lv_at hl 3 rfl) ?_
                refine w_get cx hP 0 9 12 rfl rfl (by decide) m_656 rfl rfl dX9_laysBassPoly_83 ?_
                refine lv_iload_n hx hb dX9_laysBassPoly_86 rfl (lv_at hl 0 rfl) ?_
                refine lv_dup2_11 hx hb dX9_laysBassPoly_87 rfl rfl ?_
                obtain ⟨g_88, hM⟩ := gd_some hM
                refine w_lald cx hP 3 rfl g_88 dX9_laysBassPoly_88 ?_
                refine lv_aload_n hx hb dX9_laysBassPoly_89 rfl (lv_at hl 3 rfl) ?_
                refine w_get cx hP 0 9 12 rfl rfl (by decide) m_656 rfl rfl dX9_laysBassPoly_90 ?_
                refine lv_iload_n hx hb dX9_laysBassPoly_93 rfl (lv_at hl 0 rfl) ?_
                refine lv_iconst (v := (nI 2)) hx hb dX9_laysBassPoly_94 (by decide) ?_
                refine lv_isub hx hb dX9_laysBassPoly_95 ?_
                obtain ⟨g_96, hM⟩ := gd_some hM
                refine w_lald cx hP 3 rfl g_96 dX9_laysBassPoly_96 ?_
                refine lv_ladd hx hb dX9_laysBassPoly_97 ?_
                obtain ⟨g_98, hM⟩ := gd_some hM
                refine w_last cx hP hD hS 3 rfl g_98 dX9_laysBassPoly_98 [ob h_t 9 [.ref h_t_now, .ref h_t_read, .ref h_t_past, .int t_saved, .ref h_t_text, .int t_letters, .int t_stage, .ref h_t_part, .int q_1.1, .ref h_t_matrix, .ref h_t_power, .ref h_t_product, .ref h_t_poly, .ref h_t_old, .ref h_t_step, .ref h_t_column, .ref h_t_moved, .ref h_t_traces, .ref h_t_signed, .ref h_t_plus, .ref h_t_minus, .ref h_t_walk], aI g h_t_now 29 a_t_now, aJ g h_t_matrix 324 q_1.2, aJ g h_t_poly 19 (vp_updL z_76.2 z_76.1.toNatClampNeg ((z_76.2 z_76.1.toNatClampNeg) + (z_76.2 (z_76.1 - (nI 2)).toNatClampNeg))), aJ g h_t_old 19 q_5.2.1, aJ g h_t_step 20 q_5.2.2.1, aJ g h_t_column 18 q_5.2.2.2.1, aJ g h_t_moved 18 q_5.2.2.2.2] rfl (fun H locs hP hD hS => ?_)
                refine lv_iinc (v := z_76.1 + (nI 1)) (lv' := [(3, .int (z_76.1 + (nI 1))), (2, .int z_68.1), (1, .int x_21), (0, .ref h_t)]) hx hb dX9_laysBassPoly_99 hl (k := 0) rfl (congrArg (fun q => z_76.1 + q) (show Int32.ofInt (1) = (nI 1) by decide)) (by decide) rfl (fun ls hl => ?_)
                refine lv_goto (tgt := 76) hx hb dX9_laysBassPoly_102 (by decide) ?_
                obtain rfl := Option.some.inj hM
                exact ih _ hX _ _ _ hP hD hS (lv_sub hl [0, 1, 2, 3] rfl)
          exact hL_76 n _ hn _ _ _ hP hD hS (lv_sub hl [0, 1, 2, 3] rfl)
    exact hL_68 n _ hn _ _ _ hP hD hS (lv_sub hl [0, 1, 2] rfl)
  clear hM
  have hL_24 : ∀ (n : Nat) (z_24 : Int32 × (Nat → Int64)), it (b_X9_laysBassPoly_24 x_21) n z_24 = some r_24 → ∀ (H : Heap) (locs : List Loc) (ls : Array Slot), va_P (gD g) vwCl [ob h_t 9 [.ref h_t_now, .ref h_t_read, .ref h_t_past, .int t_saved, .ref h_t_text, .int t_letters, .int t_stage, .ref h_t_part, .int q_1.1, .ref h_t_matrix, .ref h_t_power, .ref h_t_product, .ref h_t_poly, .ref h_t_old, .ref h_t_step, .ref h_t_column, .ref h_t_moved, .ref h_t_traces, .ref h_t_signed, .ref h_t_plus, .ref h_t_minus, .ref h_t_walk], aI g h_t_now 29 a_t_now, aJ g h_t_matrix 324 q_1.2, aJ g h_t_poly 19 z_24.2, aJ g h_t_old 19 q_5.2.1, aJ g h_t_step 20 q_5.2.2.1, aJ g h_t_column 18 q_5.2.2.2.1, aJ g h_t_moved 18 q_5.2.2.2.2] H → va_D A [ob h_t 9 [.ref h_t_now, .ref h_t_read, .ref h_t_past, .int t_saved, .ref h_t_text, .int t_letters, .int t_stage, .ref h_t_part, .int q_1.1, .ref h_t_matrix, .ref h_t_power, .ref h_t_product, .ref h_t_poly, .ref h_t_old, .ref h_t_step, .ref h_t_column, .ref h_t_moved, .ref h_t_traces, .ref h_t_signed, .ref h_t_plus, .ref h_t_minus, .ref h_t_walk], aI g h_t_now 29 a_t_now, aJ g h_t_matrix 324 q_1.2, aJ g h_t_poly 19 z_24.2, aJ g h_t_old 19 q_5.2.1, aJ g h_t_step 20 q_5.2.2.1, aJ g h_t_column 18 q_5.2.2.2.1, aJ g h_t_moved 18 q_5.2.2.2.2] → va_S A s.heap H locs → lv_has ls 4 [(2, .int z_24.1), (1, .int x_21), (0, .ref h_t)] → W p l e (rmv 3 67) s m args below meth c H locs 0 0 Q (F0 m 24 ls []) := by
    intro n
    induction n with
    | zero => intro z_24 hn; exact (it_zero hn).elim
    | succ n ih =>
      intro z_24 hn H locs ls hP hD hS hl
      obtain ⟨x, hM, hX⟩ := it_succ hn
      clear hn
      refine lv_iload_n hx hb dX9_laysBassPoly_24 rfl (lv_at hl 0 rfl) ?_
      refine lv_iload_n hx hb dX9_laysBassPoly_25 rfl (lv_at hl 1 rfl) ?_
      refine lv_icmp_ge (tgt := 66) hx hb dX9_laysBassPoly_26 (by decide) (fun c_26 => ?_) (fun c_26 => ?_)
      · have hM := if_t hM c_26
        obtain rfl := Option.some.inj hM
        obtain rfl : _ = r_24 := hX
        exact hE_24_0 _ _ _ hP hD hS (lv_sub hl [1, 2] rfl)
      · have hM := if_f hM c_26
        refine lv_bipush (v := (nI 18)) hx hb dX9_laysBassPoly_29 (by decide) ?_
        refine lv_istore_n (lv' := [(3, .int (nI 18)), (2, .int z_24.1), (1, .int x_21), (0, .ref h_t)]) hx hb dX9_laysBassPoly_31 rfl hl (by decide) rfl (fun ls hl => ?_)
        obtain ⟨r_32, hw, hM⟩ := bd_some hM
        obtain ⟨n, hn⟩ := wh_some hw
        clear hw
        have hE_32_0 : ∀ (H : Heap) (locs : List Loc) (ls : Array Slot), va_P (gD g) vwCl [ob h_t 9 [.ref h_t_now, .ref h_t_read, .ref h_t_past, .int t_saved, .ref h_t_text, .int t_letters, .int t_stage, .ref h_t_part, .int q_1.1, .ref h_t_matrix, .ref h_t_power, .ref h_t_product, .ref h_t_poly, .ref h_t_old, .ref h_t_step, .ref h_t_column, .ref h_t_moved, .ref h_t_traces, .ref h_t_signed, .ref h_t_plus, .ref h_t_minus, .ref h_t_walk], aI g h_t_now 29 a_t_now, aJ g h_t_matrix 324 q_1.2, aJ g h_t_poly 19 r_32, aJ g h_t_old 19 q_5.2.1, aJ g h_t_step 20 q_5.2.2.1, aJ g h_t_column 18 q_5.2.2.2.1, aJ g h_t_moved 18 q_5.2.2.2.2] H → va_D A [ob h_t 9 [.ref h_t_now, .ref h_t_read, .ref h_t_past, .int t_saved, .ref h_t_text, .int t_letters, .int t_stage, .ref h_t_part, .int q_1.1, .ref h_t_matrix, .ref h_t_power, .ref h_t_product, .ref h_t_poly, .ref h_t_old, .ref h_t_step, .ref h_t_column, .ref h_t_moved, .ref h_t_traces, .ref h_t_signed, .ref h_t_plus, .ref h_t_minus, .ref h_t_walk], aI g h_t_now 29 a_t_now, aJ g h_t_matrix 324 q_1.2, aJ g h_t_poly 19 r_32, aJ g h_t_old 19 q_5.2.1, aJ g h_t_step 20 q_5.2.2.1, aJ g h_t_column 18 q_5.2.2.2.1, aJ g h_t_moved 18 q_5.2.2.2.2] → va_S A s.heap H locs → lv_has ls 4 [(2, .int z_24.1), (1, .int x_21), (0, .ref h_t)] → W p l e (rmv 3 67) s m args below meth c H locs 0 0 Q (F0 m 60 ls []) := by
          intro H locs ls hP hD hS hl
          refine lv_iinc (v := z_24.1 + (nI 1)) (lv' := [(2, .int (z_24.1 + (nI 1))), (1, .int x_21), (0, .ref h_t)]) hx hb dX9_laysBassPoly_60 hl (k := 0) rfl (congrArg (fun q => z_24.1 + q) (show Int32.ofInt (1) = (nI 1) by decide)) (by decide) rfl (fun ls hl => ?_)
          refine lv_goto (tgt := 24) hx hb dX9_laysBassPoly_63 (by decide) ?_
          obtain rfl := Option.some.inj hM
          exact ih _ hX _ _ _ hP hD hS (lv_sub hl [0, 1, 2] rfl)
        clear hM
        have hL_32 : ∀ (n : Nat) (z_32 : Int32 × (Nat → Int64)), it b_X9_laysBassPoly_32 n z_32 = some r_32 → ∀ (H : Heap) (locs : List Loc) (ls : Array Slot), va_P (gD g) vwCl [ob h_t 9 [.ref h_t_now, .ref h_t_read, .ref h_t_past, .int t_saved, .ref h_t_text, .int t_letters, .int t_stage, .ref h_t_part, .int q_1.1, .ref h_t_matrix, .ref h_t_power, .ref h_t_product, .ref h_t_poly, .ref h_t_old, .ref h_t_step, .ref h_t_column, .ref h_t_moved, .ref h_t_traces, .ref h_t_signed, .ref h_t_plus, .ref h_t_minus, .ref h_t_walk], aI g h_t_now 29 a_t_now, aJ g h_t_matrix 324 q_1.2, aJ g h_t_poly 19 z_32.2, aJ g h_t_old 19 q_5.2.1, aJ g h_t_step 20 q_5.2.2.1, aJ g h_t_column 18 q_5.2.2.2.1, aJ g h_t_moved 18 q_5.2.2.2.2] H → va_D A [ob h_t 9 [.ref h_t_now, .ref h_t_read, .ref h_t_past, .int t_saved, .ref h_t_text, .int t_letters, .int t_stage, .ref h_t_part, .int q_1.1, .ref h_t_matrix, .ref h_t_power, .ref h_t_product, .ref h_t_poly, .ref h_t_old, .ref h_t_step, .ref h_t_column, .ref h_t_moved, .ref h_t_traces, .ref h_t_signed, .ref h_t_plus, .ref h_t_minus, .ref h_t_walk], aI g h_t_now 29 a_t_now, aJ g h_t_matrix 324 q_1.2, aJ g h_t_poly 19 z_32.2, aJ g h_t_old 19 q_5.2.1, aJ g h_t_step 20 q_5.2.2.1, aJ g h_t_column 18 q_5.2.2.2.1, aJ g h_t_moved 18 q_5.2.2.2.2] → va_S A s.heap H locs → lv_has ls 4 [(3, .int z_32.1), (2, .int z_24.1), (1, .int x_21), (0, .ref h_t)] → W p l e (rmv 3 67) s m args below meth c H locs 0 0 Q (F0 m 32 ls []) := by
          intro n
          induction n with
          | zero => intro z_32 hn; exact (it_zero hn).elim
          | succ n ih =>
            intro z_32 hn H locs ls hP hD hS hl
            obtain ⟨x, hM, hX⟩ := it_succ hn
            clear hn
            refine lv_iload_n hx hb dX9_laysBassPoly_32 rfl (lv_at hl 0 rfl) ?_
            refine lv_iconst (v := (nI 1)) hx hb dX9_laysBassPoly_33 (by decide) ?_
            refine lv_icmp_le (tgt := 60) hx hb dX9_laysBassPoly_34 (by decide) (fun c_34 => ?_) (fun c_34 => ?_)
            · have hM := if_t hM c_34
              obtain rfl := Option.some.inj hM
              obtain rfl : _ = r_32 := hX
              exact hE_32_0 _ _ _ hP hD hS (lv_sub hl [1, 2, 3] rfl)
            · have hM := if_f hM c_34
              refine lv_aload_n hx hb dX9_laysBassPoly_37 rfl (lv_at hl 3 rfl) ?_
              refine w_get cx hP 0 9 12 rfl rfl (by decide) m_656 rfl rfl dX9_laysBassPoly_38 ?_
              refine lv_iload_n hx hb dX9_laysBassPoly_41 rfl (lv_at hl 0 rfl) ?_
              refine lv_dup2_11 hx hb dX9_laysBassPoly_42 rfl rfl ?_
              obtain ⟨g_43, hM⟩ := gd_some hM
              refine w_lald cx hP 3 rfl g_43 dX9_laysBassPoly_43 ?_
              refine lv_aload_n hx hb dX9_laysBassPoly_44 rfl (lv_at hl 3 rfl) ?_
              refine w_get cx hP 0 9 12 rfl rfl (by decide) m_656 rfl rfl dX9_laysBassPoly_45 ?_
              refine lv_iload_n hx hb dX9_laysBassPoly_48 rfl (lv_at hl 0 rfl) ?_
              refine lv_iconst (v := (nI 2)) hx hb dX9_laysBassPoly_49 (by decide) ?_
              refine lv_isub hx hb dX9_laysBassPoly_50 ?_
              obtain ⟨g_51, hM⟩ := gd_some hM
              refine w_lald cx hP 3 rfl g_51 dX9_laysBassPoly_51 ?_
              refine lv_lsub hx hb dX9_laysBassPoly_52 ?_
              obtain ⟨g_53, hM⟩ := gd_some hM
              refine w_last cx hP hD hS 3 rfl g_53 dX9_laysBassPoly_53 [ob h_t 9 [.ref h_t_now, .ref h_t_read, .ref h_t_past, .int t_saved, .ref h_t_text, .int t_letters, .int t_stage, .ref h_t_part, .int q_1.1, .ref h_t_matrix, .ref h_t_power, .ref h_t_product, .ref h_t_poly, .ref h_t_old, .ref h_t_step, .ref h_t_column, .ref h_t_moved, .ref h_t_traces, .ref h_t_signed, .ref h_t_plus, .ref h_t_minus, .ref h_t_walk], aI g h_t_now 29 a_t_now, aJ g h_t_matrix 324 q_1.2, aJ g h_t_poly 19 (vp_updL z_32.2 z_32.1.toNatClampNeg ((z_32.2 z_32.1.toNatClampNeg) - (z_32.2 (z_32.1 - (nI 2)).toNatClampNeg))), aJ g h_t_old 19 q_5.2.1, aJ g h_t_step 20 q_5.2.2.1, aJ g h_t_column 18 q_5.2.2.2.1, aJ g h_t_moved 18 q_5.2.2.2.2] rfl (fun H locs hP hD hS => ?_)
              obtain ⟨x_54, ex_54⟩ : ∃ q : Int32, q = z_32.1 + (nI 4294967295) := ⟨_, rfl⟩
              have hM := nm_some hM x_54 ex_54
              refine lv_iinc (v := x_54) (lv' := [(3, .int x_54), (2, .int z_24.1), (1, .int x_21), (0, .ref h_t)]) hx hb dX9_laysBassPoly_54 hl (k := 0) rfl ((congrArg (fun q => z_32.1 + q) (show Int32.ofInt (-1) = (nI 4294967295) by decide)).trans ex_54.symm) (by decide) rfl (fun ls hl => ?_)
              refine lv_goto (tgt := 32) hx hb dX9_laysBassPoly_57 (by decide) ?_
              obtain rfl := Option.some.inj hM
              exact ih _ hX _ _ _ hP hD hS (lv_sub hl [0, 1, 2, 3] rfl)
        exact hL_32 n _ hn _ _ _ hP hD hS (lv_sub hl [0, 1, 2, 3] rfl)
  exact hL_24 n _ hn _ _ _ hP hD hS (lv_sub hl [0, 1, 2] rfl)
noncomputable def b_X9_goesOn_94 (t_size : Int32) (r_2 : Nat → Int64) : Int32 × (Nat → Int64) → Option ((Int32 × (Nat → Int64)) ⊕ ((Nat → Int64))) := fun z_94 =>
  if ((nI 18) * t_size) ≤ z_94.1 then some (.inr z_94.2) else gd (inb z_94.1 324) (gd (inb z_94.1 324) (some (.inl (z_94.1 + (nI 1), vp_updL z_94.2 z_94.1.toNatClampNeg (r_2 z_94.1.toNatClampNeg)))))
noncomputable def b_X9_goesOn_25 (t_size : Int32) (a_t_matrix : Nat → Int64) (a_t_power : Nat → Int64) (z_2 : Int32 × (Nat → Int64)) (z_12 : Int32 × (Nat → Int64)) : Int32 × Int64 → Option ((Int32 × Int64) ⊕ ((Int64))) := fun z_25 =>
  if t_size ≤ z_25.1 then some (.inr z_25.2) else gd (inb (((nI 18) * z_2.1) + z_25.1) 324) (gd (inb (((nI 18) * z_25.1) + z_12.1) 324) (nm (z_25.2 + ((a_t_power (((nI 18) * z_2.1) + z_25.1).toNatClampNeg) * (a_t_matrix (((nI 18) * z_25.1) + z_12.1).toNatClampNeg))) (fun (x_61 : Int64) => some (.inl (z_25.1 + (nI 1), x_61)))))
noncomputable def b_X9_goesOn_12 (t_size : Int32) (a_t_matrix : Nat → Int64) (a_t_power : Nat → Int64) (z_2 : Int32 × (Nat → Int64)) : Int32 × (Nat → Int64) → Option ((Int32 × (Nat → Int64)) ⊕ ((Nat → Int64))) := fun z_12 =>
  if t_size ≤ z_12.1 then some (.inr z_12.2) else bd (wh (b_X9_goesOn_25 t_size a_t_matrix a_t_power z_2 z_12) ((nI 0), (0 : Int64))) (fun (r_25 : Int64) => gd (inb (((nI 18) * z_2.1) + z_12.1) 324) (some (.inl (z_12.1 + (nI 1), vp_updL z_12.2 (((nI 18) * z_2.1) + z_12.1).toNatClampNeg r_25))))
noncomputable def b_X9_goesOn_2 (t_size : Int32) (a_t_matrix : Nat → Int64) (a_t_power : Nat → Int64) : Int32 × (Nat → Int64) → Option ((Int32 × (Nat → Int64)) ⊕ ((Nat → Int64))) := fun z_2 =>
  if t_size ≤ z_2.1 then some (.inr z_2.2) else bd (wh (b_X9_goesOn_12 t_size a_t_matrix a_t_power z_2) ((nI 0), z_2.2)) (fun (r_12 : Nat → Int64) => some (.inl (z_2.1 + (nI 1), r_12)))
noncomputable def f_X9_goesOn (t_saved : Int32) (t_letters : Int32) (t_stage : Int32) (t_size : Int32) (a_t_matrix : Nat → Int64) (a_t_power : Nat → Int64) (a_t_product : Nat → Int64) : Option ((Nat → Int64) × (Nat → Int64)) :=
  bd (wh (b_X9_goesOn_2 t_size a_t_matrix a_t_power) ((nI 0), a_t_product)) (fun (r_2 : Nat → Int64) => bd (wh (b_X9_goesOn_94 t_size r_2) ((nI 0), a_t_power)) (fun (r_94 : Nat → Int64) => some (r_94, r_2)))
theorem yq_X9_goesOn : yq yX9_goesOn 0 := by unfold yq; decide +kernel
set_option maxHeartbeats 4000000 in
set_option maxRecDepth 100000 in
theorem c_X9_goesOn (g : GG) (l : Launch) (h_t : Nat) (h_t_now : Nat) (h_t_read : Nat) (h_t_past : Nat) (h_t_text : Nat) (h_t_part : Nat) (h_t_matrix : Nat) (h_t_power : Nat) (h_t_product : Nat) (h_t_poly : Nat) (h_t_old : Nat) (h_t_step : Nat) (h_t_column : Nat) (h_t_moved : Nat) (h_t_traces : Nat) (h_t_signed : Nat) (h_t_plus : Nat) (h_t_minus : Nat) (h_t_walk : Nat) (t_saved : Int32) (t_letters : Int32) (t_stage : Int32) (t_size : Int32) (a_t_matrix : Nat → Int64) (a_t_power : Nat → Int64) (a_t_product : Nat → Int64) {R : (Nat → Int64) × (Nat → Int64)} (hM : f_X9_goesOn t_saved t_letters t_stage t_size a_t_matrix a_t_power a_t_product = some R) : CT g l yX9_goesOn cX9_goesOn 6 none 0 0 [.ref h_t] [ob h_t 9 [.ref h_t_now, .ref h_t_read, .ref h_t_past, .int t_saved, .ref h_t_text, .int t_letters, .int t_stage, .ref h_t_part, .int t_size, .ref h_t_matrix, .ref h_t_power, .ref h_t_product, .ref h_t_poly, .ref h_t_old, .ref h_t_step, .ref h_t_column, .ref h_t_moved, .ref h_t_traces, .ref h_t_signed, .ref h_t_plus, .ref h_t_minus, .ref h_t_walk], aJ g h_t_matrix 324 a_t_matrix, aJ g h_t_power 324 a_t_power, aJ g h_t_product 324 a_t_product] [ob h_t 9 [.ref h_t_now, .ref h_t_read, .ref h_t_past, .int t_saved, .ref h_t_text, .int t_letters, .int t_stage, .ref h_t_part, .int t_size, .ref h_t_matrix, .ref h_t_power, .ref h_t_product, .ref h_t_poly, .ref h_t_old, .ref h_t_step, .ref h_t_column, .ref h_t_moved, .ref h_t_traces, .ref h_t_signed, .ref h_t_plus, .ref h_t_minus, .ref h_t_walk], aJ g h_t_matrix 324 a_t_matrix, aJ g h_t_power 324 R.1, aJ g h_t_product 324 R.2] none := by
  refine ct_v (by decide +kernel) (Nat.le_of_ble_eq_true rfl) ?_
  intro p e s m args below meth c Q A ls cx hP hD hA hl hfin
  obtain ⟨hx, hb, hml, hown, hts, hK⟩ := id cx
  have hl : lv_has ls 6 [(0, .ref h_t)] := hl
  have hS : va_S A s.heap s.heap [] := va_S.rf
  refine lv_iconst (v := (nI 0)) hx hb dX9_goesOn_0 (by decide) ?_
  refine lv_istore_n (lv' := [(1, .int (nI 0)), (0, .ref h_t)]) hx hb dX9_goesOn_1 rfl hl (by decide) rfl (fun ls hl => ?_)
  obtain ⟨r_2, hw, hM⟩ := bd_some hM
  obtain ⟨n, hn⟩ := wh_some hw
  clear hw
  have hE_2_0 : ∀ (H : Heap) (locs : List Loc) (ls : Array Slot), va_P (gD g) vwCl [ob h_t 9 [.ref h_t_now, .ref h_t_read, .ref h_t_past, .int t_saved, .ref h_t_text, .int t_letters, .int t_stage, .ref h_t_part, .int t_size, .ref h_t_matrix, .ref h_t_power, .ref h_t_product, .ref h_t_poly, .ref h_t_old, .ref h_t_step, .ref h_t_column, .ref h_t_moved, .ref h_t_traces, .ref h_t_signed, .ref h_t_plus, .ref h_t_minus, .ref h_t_walk], aJ g h_t_matrix 324 a_t_matrix, aJ g h_t_power 324 a_t_power, aJ g h_t_product 324 r_2] H → va_D A [ob h_t 9 [.ref h_t_now, .ref h_t_read, .ref h_t_past, .int t_saved, .ref h_t_text, .int t_letters, .int t_stage, .ref h_t_part, .int t_size, .ref h_t_matrix, .ref h_t_power, .ref h_t_product, .ref h_t_poly, .ref h_t_old, .ref h_t_step, .ref h_t_column, .ref h_t_moved, .ref h_t_traces, .ref h_t_signed, .ref h_t_plus, .ref h_t_minus, .ref h_t_walk], aJ g h_t_matrix 324 a_t_matrix, aJ g h_t_power 324 a_t_power, aJ g h_t_product 324 r_2] → va_S A s.heap H locs → lv_has ls 6 [(0, .ref h_t)] → W p l e (rmv 0 0) s m args below meth c H locs 0 0 Q (F0 m 92 ls []) := by
    intro H locs ls hP hD hS hl
    refine lv_iconst (v := (nI 0)) hx hb dX9_goesOn_92 (by decide) ?_
    refine lv_istore_n (lv' := [(1, .int (nI 0)), (0, .ref h_t)]) hx hb dX9_goesOn_93 rfl hl (by decide) rfl (fun ls hl => ?_)
    obtain ⟨r_94, hw, hM⟩ := bd_some hM
    obtain ⟨n, hn⟩ := wh_some hw
    clear hw
    have hE_94_0 : ∀ (H : Heap) (locs : List Loc) (ls : Array Slot), va_P (gD g) vwCl [ob h_t 9 [.ref h_t_now, .ref h_t_read, .ref h_t_past, .int t_saved, .ref h_t_text, .int t_letters, .int t_stage, .ref h_t_part, .int t_size, .ref h_t_matrix, .ref h_t_power, .ref h_t_product, .ref h_t_poly, .ref h_t_old, .ref h_t_step, .ref h_t_column, .ref h_t_moved, .ref h_t_traces, .ref h_t_signed, .ref h_t_plus, .ref h_t_minus, .ref h_t_walk], aJ g h_t_matrix 324 a_t_matrix, aJ g h_t_power 324 r_94, aJ g h_t_product 324 r_2] H → va_D A [ob h_t 9 [.ref h_t_now, .ref h_t_read, .ref h_t_past, .int t_saved, .ref h_t_text, .int t_letters, .int t_stage, .ref h_t_part, .int t_size, .ref h_t_matrix, .ref h_t_power, .ref h_t_product, .ref h_t_poly, .ref h_t_old, .ref h_t_step, .ref h_t_column, .ref h_t_moved, .ref h_t_traces, .ref h_t_signed, .ref h_t_plus, .ref h_t_minus, .ref h_t_walk], aJ g h_t_matrix 324 a_t_matrix, aJ g h_t_power 324 r_94, aJ g h_t_product 324 r_2] → va_S A s.heap H locs → lv_has ls 6 [] → W p l e (rmv 0 0) s m args below meth c H locs 0 0 Q (F0 m 123 ls []) := by
      intro H locs ls hP hD hS hl
      obtain rfl := Option.some.inj hM
      exact hfin 123 _ _ _ dX9_goesOn_123 hP hD hS
    clear hM
    have hL_94 : ∀ (n : Nat) (z_94 : Int32 × (Nat → Int64)), it (b_X9_goesOn_94 t_size r_2) n z_94 = some r_94 → ∀ (H : Heap) (locs : List Loc) (ls : Array Slot), va_P (gD g) vwCl [ob h_t 9 [.ref h_t_now, .ref h_t_read, .ref h_t_past, .int t_saved, .ref h_t_text, .int t_letters, .int t_stage, .ref h_t_part, .int t_size, .ref h_t_matrix, .ref h_t_power, .ref h_t_product, .ref h_t_poly, .ref h_t_old, .ref h_t_step, .ref h_t_column, .ref h_t_moved, .ref h_t_traces, .ref h_t_signed, .ref h_t_plus, .ref h_t_minus, .ref h_t_walk], aJ g h_t_matrix 324 a_t_matrix, aJ g h_t_power 324 z_94.2, aJ g h_t_product 324 r_2] H → va_D A [ob h_t 9 [.ref h_t_now, .ref h_t_read, .ref h_t_past, .int t_saved, .ref h_t_text, .int t_letters, .int t_stage, .ref h_t_part, .int t_size, .ref h_t_matrix, .ref h_t_power, .ref h_t_product, .ref h_t_poly, .ref h_t_old, .ref h_t_step, .ref h_t_column, .ref h_t_moved, .ref h_t_traces, .ref h_t_signed, .ref h_t_plus, .ref h_t_minus, .ref h_t_walk], aJ g h_t_matrix 324 a_t_matrix, aJ g h_t_power 324 z_94.2, aJ g h_t_product 324 r_2] → va_S A s.heap H locs → lv_has ls 6 [(1, .int z_94.1), (0, .ref h_t)] → W p l e (rmv 0 0) s m args below meth c H locs 0 0 Q (F0 m 94 ls []) := by
      intro n
      induction n with
      | zero => intro z_94 hn; exact (it_zero hn).elim
      | succ n ih =>
        intro z_94 hn H locs ls hP hD hS hl
        obtain ⟨x, hM, hX⟩ := it_succ hn
        clear hn
        refine lv_iload_n hx hb dX9_goesOn_94 rfl (lv_at hl 0 rfl) ?_
        refine lv_bipush (v := (nI 18)) hx hb dX9_goesOn_95 (by decide) ?_
        refine lv_aload_n hx hb dX9_goesOn_97 rfl (lv_at hl 1 rfl) ?_
        refine w_get cx hP 0 9 8 rfl rfl (by decide) m_652 rfl rfl dX9_goesOn_98 ?_
        refine lv_imul hx hb dX9_goesOn_101 ?_
        refine lv_icmp_ge (tgt := 123) hx hb dX9_goesOn_102 (by decide) (fun c_102 => ?_) (fun c_102 => ?_)
        · have hM := if_t hM c_102
          obtain rfl := Option.some.inj hM
          obtain rfl : _ = r_94 := hX
          exact hE_94_0 _ _ _ hP hD hS (lv_sub hl [] rfl)
        · have hM := if_f hM c_102
          refine lv_aload_n hx hb dX9_goesOn_105 rfl (lv_at hl 1 rfl) ?_
          refine w_get cx hP 0 9 10 rfl rfl (by decide) m_654 rfl rfl dX9_goesOn_106 ?_
          refine lv_iload_n hx hb dX9_goesOn_109 rfl (lv_at hl 0 rfl) ?_
          refine lv_aload_n hx hb dX9_goesOn_110 rfl (lv_at hl 1 rfl) ?_
          refine w_get cx hP 0 9 11 rfl rfl (by decide) m_655 rfl rfl dX9_goesOn_111 ?_
          refine lv_iload_n hx hb dX9_goesOn_114 rfl (lv_at hl 0 rfl) ?_
          obtain ⟨g_115, hM⟩ := gd_some hM
          refine w_lald cx hP 3 rfl g_115 dX9_goesOn_115 ?_
          obtain ⟨g_116, hM⟩ := gd_some hM
          refine w_last cx hP hD hS 2 rfl g_116 dX9_goesOn_116 [ob h_t 9 [.ref h_t_now, .ref h_t_read, .ref h_t_past, .int t_saved, .ref h_t_text, .int t_letters, .int t_stage, .ref h_t_part, .int t_size, .ref h_t_matrix, .ref h_t_power, .ref h_t_product, .ref h_t_poly, .ref h_t_old, .ref h_t_step, .ref h_t_column, .ref h_t_moved, .ref h_t_traces, .ref h_t_signed, .ref h_t_plus, .ref h_t_minus, .ref h_t_walk], aJ g h_t_matrix 324 a_t_matrix, aJ g h_t_power 324 (vp_updL z_94.2 z_94.1.toNatClampNeg (r_2 z_94.1.toNatClampNeg)), aJ g h_t_product 324 r_2] rfl (fun H locs hP hD hS => ?_)
          refine lv_iinc (v := z_94.1 + (nI 1)) (lv' := [(1, .int (z_94.1 + (nI 1))), (0, .ref h_t)]) hx hb dX9_goesOn_117 hl (k := 0) rfl (congrArg (fun q => z_94.1 + q) (show Int32.ofInt (1) = (nI 1) by decide)) (by decide) rfl (fun ls hl => ?_)
          refine lv_goto (tgt := 94) hx hb dX9_goesOn_120 (by decide) ?_
          obtain rfl := Option.some.inj hM
          exact ih _ hX _ _ _ hP hD hS (lv_sub hl [0, 1] rfl)
    exact hL_94 n _ hn _ _ _ hP hD hS (lv_sub hl [0, 1] rfl)
  clear hM
  have hL_2 : ∀ (n : Nat) (z_2 : Int32 × (Nat → Int64)), it (b_X9_goesOn_2 t_size a_t_matrix a_t_power) n z_2 = some r_2 → ∀ (H : Heap) (locs : List Loc) (ls : Array Slot), va_P (gD g) vwCl [ob h_t 9 [.ref h_t_now, .ref h_t_read, .ref h_t_past, .int t_saved, .ref h_t_text, .int t_letters, .int t_stage, .ref h_t_part, .int t_size, .ref h_t_matrix, .ref h_t_power, .ref h_t_product, .ref h_t_poly, .ref h_t_old, .ref h_t_step, .ref h_t_column, .ref h_t_moved, .ref h_t_traces, .ref h_t_signed, .ref h_t_plus, .ref h_t_minus, .ref h_t_walk], aJ g h_t_matrix 324 a_t_matrix, aJ g h_t_power 324 a_t_power, aJ g h_t_product 324 z_2.2] H → va_D A [ob h_t 9 [.ref h_t_now, .ref h_t_read, .ref h_t_past, .int t_saved, .ref h_t_text, .int t_letters, .int t_stage, .ref h_t_part, .int t_size, .ref h_t_matrix, .ref h_t_power, .ref h_t_product, .ref h_t_poly, .ref h_t_old, .ref h_t_step, .ref h_t_column, .ref h_t_moved, .ref h_t_traces, .ref h_t_signed, .ref h_t_plus, .ref h_t_minus, .ref h_t_walk], aJ g h_t_matrix 324 a_t_matrix, aJ g h_t_power 324 a_t_power, aJ g h_t_product 324 z_2.2] → va_S A s.heap H locs → lv_has ls 6 [(1, .int z_2.1), (0, .ref h_t)] → W p l e (rmv 0 0) s m args below meth c H locs 0 0 Q (F0 m 2 ls []) := by
    intro n
    induction n with
    | zero => intro z_2 hn; exact (it_zero hn).elim
    | succ n ih =>
      intro z_2 hn H locs ls hP hD hS hl
      obtain ⟨x, hM, hX⟩ := it_succ hn
      clear hn
      refine lv_iload_n hx hb dX9_goesOn_2 rfl (lv_at hl 0 rfl) ?_
      refine lv_aload_n hx hb dX9_goesOn_3 rfl (lv_at hl 1 rfl) ?_
      refine w_get cx hP 0 9 8 rfl rfl (by decide) m_652 rfl rfl dX9_goesOn_4 ?_
      refine lv_icmp_ge (tgt := 92) hx hb dX9_goesOn_7 (by decide) (fun c_7 => ?_) (fun c_7 => ?_)
      · have hM := if_t hM c_7
        obtain rfl := Option.some.inj hM
        obtain rfl : _ = r_2 := hX
        exact hE_2_0 _ _ _ hP hD hS (lv_sub hl [1] rfl)
      · have hM := if_f hM c_7
        refine lv_iconst (v := (nI 0)) hx hb dX9_goesOn_10 (by decide) ?_
        refine lv_istore_n (lv' := [(2, .int (nI 0)), (1, .int z_2.1), (0, .ref h_t)]) hx hb dX9_goesOn_11 rfl hl (by decide) rfl (fun ls hl => ?_)
        obtain ⟨r_12, hw, hM⟩ := bd_some hM
        obtain ⟨n, hn⟩ := wh_some hw
        clear hw
        have hE_12_0 : ∀ (H : Heap) (locs : List Loc) (ls : Array Slot), va_P (gD g) vwCl [ob h_t 9 [.ref h_t_now, .ref h_t_read, .ref h_t_past, .int t_saved, .ref h_t_text, .int t_letters, .int t_stage, .ref h_t_part, .int t_size, .ref h_t_matrix, .ref h_t_power, .ref h_t_product, .ref h_t_poly, .ref h_t_old, .ref h_t_step, .ref h_t_column, .ref h_t_moved, .ref h_t_traces, .ref h_t_signed, .ref h_t_plus, .ref h_t_minus, .ref h_t_walk], aJ g h_t_matrix 324 a_t_matrix, aJ g h_t_power 324 a_t_power, aJ g h_t_product 324 r_12] H → va_D A [ob h_t 9 [.ref h_t_now, .ref h_t_read, .ref h_t_past, .int t_saved, .ref h_t_text, .int t_letters, .int t_stage, .ref h_t_part, .int t_size, .ref h_t_matrix, .ref h_t_power, .ref h_t_product, .ref h_t_poly, .ref h_t_old, .ref h_t_step, .ref h_t_column, .ref h_t_moved, .ref h_t_traces, .ref h_t_signed, .ref h_t_plus, .ref h_t_minus, .ref h_t_walk], aJ g h_t_matrix 324 a_t_matrix, aJ g h_t_power 324 a_t_power, aJ g h_t_product 324 r_12] → va_S A s.heap H locs → lv_has ls 6 [(1, .int z_2.1), (0, .ref h_t)] → W p l e (rmv 0 0) s m args below meth c H locs 0 0 Q (F0 m 86 ls []) := by
          intro H locs ls hP hD hS hl
          refine lv_iinc (v := z_2.1 + (nI 1)) (lv' := [(1, .int (z_2.1 + (nI 1))), (0, .ref h_t)]) hx hb dX9_goesOn_86 hl (k := 0) rfl (congrArg (fun q => z_2.1 + q) (show Int32.ofInt (1) = (nI 1) by decide)) (by decide) rfl (fun ls hl => ?_)
          refine lv_goto (tgt := 2) hx hb dX9_goesOn_89 (by decide) ?_
          obtain rfl := Option.some.inj hM
          exact ih _ hX _ _ _ hP hD hS (lv_sub hl [0, 1] rfl)
        clear hM
        have hL_12 : ∀ (n : Nat) (z_12 : Int32 × (Nat → Int64)), it (b_X9_goesOn_12 t_size a_t_matrix a_t_power z_2) n z_12 = some r_12 → ∀ (H : Heap) (locs : List Loc) (ls : Array Slot), va_P (gD g) vwCl [ob h_t 9 [.ref h_t_now, .ref h_t_read, .ref h_t_past, .int t_saved, .ref h_t_text, .int t_letters, .int t_stage, .ref h_t_part, .int t_size, .ref h_t_matrix, .ref h_t_power, .ref h_t_product, .ref h_t_poly, .ref h_t_old, .ref h_t_step, .ref h_t_column, .ref h_t_moved, .ref h_t_traces, .ref h_t_signed, .ref h_t_plus, .ref h_t_minus, .ref h_t_walk], aJ g h_t_matrix 324 a_t_matrix, aJ g h_t_power 324 a_t_power, aJ g h_t_product 324 z_12.2] H → va_D A [ob h_t 9 [.ref h_t_now, .ref h_t_read, .ref h_t_past, .int t_saved, .ref h_t_text, .int t_letters, .int t_stage, .ref h_t_part, .int t_size, .ref h_t_matrix, .ref h_t_power, .ref h_t_product, .ref h_t_poly, .ref h_t_old, .ref h_t_step, .ref h_t_column, .ref h_t_moved, .ref h_t_traces, .ref h_t_signed, .ref h_t_plus, .ref h_t_minus, .ref h_t_walk], aJ g h_t_matrix 324 a_t_matrix, aJ g h_t_power 324 a_t_power, aJ g h_t_product 324 z_12.2] → va_S A s.heap H locs → lv_has ls 6 [(2, .int z_12.1), (1, .int z_2.1), (0, .ref h_t)] → W p l e (rmv 0 0) s m args below meth c H locs 0 0 Q (F0 m 12 ls []) := by
          intro n
          induction n with
          | zero => intro z_12 hn; exact (it_zero hn).elim
          | succ n ih =>
            intro z_12 hn H locs ls hP hD hS hl
            obtain ⟨x, hM, hX⟩ := it_succ hn
            clear hn
            refine lv_iload_n hx hb dX9_goesOn_12 rfl (lv_at hl 0 rfl) ?_
            refine lv_aload_n hx hb dX9_goesOn_13 rfl (lv_at hl 2 rfl) ?_
            refine w_get cx hP 0 9 8 rfl rfl (by decide) m_652 rfl rfl dX9_goesOn_14 ?_
            refine lv_icmp_ge (tgt := 86) hx hb dX9_goesOn_17 (by decide) (fun c_17 => ?_) (fun c_17 => ?_)
            · have hM := if_t hM c_17
              obtain rfl := Option.some.inj hM
              obtain rfl : _ = r_12 := hX
              exact hE_12_0 _ _ _ hP hD hS (lv_sub hl [1, 2] rfl)
            · have hM := if_f hM c_17
              refine lv_lconst (v := (0 : Int64)) hx hb dX9_goesOn_20 (by decide) ?_
              refine lv_lstore_n (lv' := [(3, .long (0 : Int64)), (2, .int z_12.1), (1, .int z_2.1), (0, .ref h_t)]) hx hb dX9_goesOn_21 rfl hl (by decide) rfl (fun ls hl => ?_)
              refine lv_iconst (v := (nI 0)) hx hb dX9_goesOn_22 (by decide) ?_
              refine lv_istore (lv' := [(5, .int (nI 0)), (3, .long (0 : Int64)), (2, .int z_12.1), (1, .int z_2.1), (0, .ref h_t)]) hx hb dX9_goesOn_23 hl (by decide) rfl (fun ls hl => ?_)
              obtain ⟨r_25, hw, hM⟩ := bd_some hM
              obtain ⟨n, hn⟩ := wh_some hw
              clear hw
              have hE_25_0 : ∀ (H : Heap) (locs : List Loc) (ls : Array Slot), va_P (gD g) vwCl [ob h_t 9 [.ref h_t_now, .ref h_t_read, .ref h_t_past, .int t_saved, .ref h_t_text, .int t_letters, .int t_stage, .ref h_t_part, .int t_size, .ref h_t_matrix, .ref h_t_power, .ref h_t_product, .ref h_t_poly, .ref h_t_old, .ref h_t_step, .ref h_t_column, .ref h_t_moved, .ref h_t_traces, .ref h_t_signed, .ref h_t_plus, .ref h_t_minus, .ref h_t_walk], aJ g h_t_matrix 324 a_t_matrix, aJ g h_t_power 324 a_t_power, aJ g h_t_product 324 z_12.2] H → va_D A [ob h_t 9 [.ref h_t_now, .ref h_t_read, .ref h_t_past, .int t_saved, .ref h_t_text, .int t_letters, .int t_stage, .ref h_t_part, .int t_size, .ref h_t_matrix, .ref h_t_power, .ref h_t_product, .ref h_t_poly, .ref h_t_old, .ref h_t_step, .ref h_t_column, .ref h_t_moved, .ref h_t_traces, .ref h_t_signed, .ref h_t_plus, .ref h_t_minus, .ref h_t_walk], aJ g h_t_matrix 324 a_t_matrix, aJ g h_t_power 324 a_t_power, aJ g h_t_product 324 z_12.2] → va_S A s.heap H locs → lv_has ls 6 [(3, .long r_25), (2, .int z_12.1), (1, .int z_2.1), (0, .ref h_t)] → W p l e (rmv 0 0) s m args below meth c H locs 0 0 Q (F0 m 68 ls []) := by
                intro H locs ls hP hD hS hl
                refine lv_aload_n hx hb dX9_goesOn_68 rfl (lv_at hl 3 rfl) ?_
                refine w_get cx hP 0 9 11 rfl rfl (by decide) m_655 rfl rfl dX9_goesOn_69 ?_
                refine lv_bipush (v := (nI 18)) hx hb dX9_goesOn_72 (by decide) ?_
                refine lv_iload_n hx hb dX9_goesOn_74 rfl (lv_at hl 2 rfl) ?_
                refine lv_imul hx hb dX9_goesOn_75 ?_
                refine lv_iload_n hx hb dX9_goesOn_76 rfl (lv_at hl 1 rfl) ?_
                refine lv_iadd hx hb dX9_goesOn_77 ?_
                refine lv_lload_n hx hb dX9_goesOn_78 rfl (lv_at hl 0 rfl) ?_
                obtain ⟨g_79, hM⟩ := gd_some hM
                refine w_last cx hP hD hS 3 rfl g_79 dX9_goesOn_79 [ob h_t 9 [.ref h_t_now, .ref h_t_read, .ref h_t_past, .int t_saved, .ref h_t_text, .int t_letters, .int t_stage, .ref h_t_part, .int t_size, .ref h_t_matrix, .ref h_t_power, .ref h_t_product, .ref h_t_poly, .ref h_t_old, .ref h_t_step, .ref h_t_column, .ref h_t_moved, .ref h_t_traces, .ref h_t_signed, .ref h_t_plus, .ref h_t_minus, .ref h_t_walk], aJ g h_t_matrix 324 a_t_matrix, aJ g h_t_power 324 a_t_power, aJ g h_t_product 324 (vp_updL z_12.2 (((nI 18) * z_2.1) + z_12.1).toNatClampNeg r_25)] rfl (fun H locs hP hD hS => ?_)
                refine lv_iinc (v := z_12.1 + (nI 1)) (lv' := [(2, .int (z_12.1 + (nI 1))), (3, .long r_25), (1, .int z_2.1), (0, .ref h_t)]) hx hb dX9_goesOn_80 hl (k := 1) rfl (congrArg (fun q => z_12.1 + q) (show Int32.ofInt (1) = (nI 1) by decide)) (by decide) rfl (fun ls hl => ?_)
                refine lv_goto (tgt := 12) hx hb dX9_goesOn_83 (by decide) ?_
                obtain rfl := Option.some.inj hM
                exact ih _ hX _ _ _ hP hD hS (lv_sub hl [0, 2, 3] rfl)
              clear hM
              have hL_25 : ∀ (n : Nat) (z_25 : Int32 × Int64), it (b_X9_goesOn_25 t_size a_t_matrix a_t_power z_2 z_12) n z_25 = some r_25 → ∀ (H : Heap) (locs : List Loc) (ls : Array Slot), va_P (gD g) vwCl [ob h_t 9 [.ref h_t_now, .ref h_t_read, .ref h_t_past, .int t_saved, .ref h_t_text, .int t_letters, .int t_stage, .ref h_t_part, .int t_size, .ref h_t_matrix, .ref h_t_power, .ref h_t_product, .ref h_t_poly, .ref h_t_old, .ref h_t_step, .ref h_t_column, .ref h_t_moved, .ref h_t_traces, .ref h_t_signed, .ref h_t_plus, .ref h_t_minus, .ref h_t_walk], aJ g h_t_matrix 324 a_t_matrix, aJ g h_t_power 324 a_t_power, aJ g h_t_product 324 z_12.2] H → va_D A [ob h_t 9 [.ref h_t_now, .ref h_t_read, .ref h_t_past, .int t_saved, .ref h_t_text, .int t_letters, .int t_stage, .ref h_t_part, .int t_size, .ref h_t_matrix, .ref h_t_power, .ref h_t_product, .ref h_t_poly, .ref h_t_old, .ref h_t_step, .ref h_t_column, .ref h_t_moved, .ref h_t_traces, .ref h_t_signed, .ref h_t_plus, .ref h_t_minus, .ref h_t_walk], aJ g h_t_matrix 324 a_t_matrix, aJ g h_t_power 324 a_t_power, aJ g h_t_product 324 z_12.2] → va_S A s.heap H locs → lv_has ls 6 [(5, .int z_25.1), (3, .long z_25.2), (2, .int z_12.1), (1, .int z_2.1), (0, .ref h_t)] → W p l e (rmv 0 0) s m args below meth c H locs 0 0 Q (F0 m 25 ls []) := by
                intro n
                induction n with
                | zero => intro z_25 hn; exact (it_zero hn).elim
                | succ n ih =>
                  intro z_25 hn H locs ls hP hD hS hl
                  obtain ⟨x, hM, hX⟩ := it_succ hn
                  clear hn
                  refine lv_iload hx hb dX9_goesOn_25 (lv_at hl 0 rfl) ?_
                  refine lv_aload_n hx hb dX9_goesOn_27 rfl (lv_at hl 4 rfl) ?_
                  refine w_get cx hP 0 9 8 rfl rfl (by decide) m_652 rfl rfl dX9_goesOn_28 ?_
                  refine lv_icmp_ge (tgt := 68) hx hb dX9_goesOn_31 (by decide) (fun c_31 => ?_) (fun c_31 => ?_)
                  · have hM := if_t hM c_31
                    obtain rfl := Option.some.inj hM
                    obtain rfl : _ = r_25 := hX
                    exact hE_25_0 _ _ _ hP hD hS (lv_sub hl [1, 2, 3, 4] rfl)
                  · have hM := if_f hM c_31
                    refine lv_lload_n hx hb dX9_goesOn_34 rfl (lv_at hl 1 rfl) ?_
                    refine lv_aload_n hx hb dX9_goesOn_35 rfl (lv_at hl 4 rfl) ?_
                    refine w_get cx hP 0 9 10 rfl rfl (by decide) m_654 rfl rfl dX9_goesOn_36 ?_
                    refine lv_bipush (v := (nI 18)) hx hb dX9_goesOn_39 (by decide) ?_
                    refine lv_iload_n hx hb dX9_goesOn_41 rfl (lv_at hl 3 rfl) ?_
                    refine lv_imul hx hb dX9_goesOn_42 ?_
                    refine lv_iload hx hb dX9_goesOn_43 (lv_at hl 0 rfl) ?_
                    refine lv_iadd hx hb dX9_goesOn_45 ?_
                    obtain ⟨g_46, hM⟩ := gd_some hM
                    refine w_lald cx hP 2 rfl g_46 dX9_goesOn_46 ?_
                    refine lv_aload_n hx hb dX9_goesOn_47 rfl (lv_at hl 4 rfl) ?_
                    refine w_get cx hP 0 9 9 rfl rfl (by decide) m_653 rfl rfl dX9_goesOn_48 ?_
                    refine lv_bipush (v := (nI 18)) hx hb dX9_goesOn_51 (by decide) ?_
                    refine lv_iload hx hb dX9_goesOn_53 (lv_at hl 0 rfl) ?_
                    refine lv_imul hx hb dX9_goesOn_55 ?_
                    refine lv_iload_n hx hb dX9_goesOn_56 rfl (lv_at hl 2 rfl) ?_
                    refine lv_iadd hx hb dX9_goesOn_57 ?_
                    obtain ⟨g_58, hM⟩ := gd_some hM
                    refine w_lald cx hP 1 rfl g_58 dX9_goesOn_58 ?_
                    refine lv_lmul hx hb dX9_goesOn_59 ?_
                    refine lv_ladd hx hb dX9_goesOn_60 ?_
                    refine lv_topl (fun x_61 ex_61 => ?_)
                    have hM := nm_some hM x_61 ex_61
                    refine lv_lstore_n (lv' := [(3, .long x_61), (5, .int z_25.1), (2, .int z_12.1), (1, .int z_2.1), (0, .ref h_t)]) hx hb dX9_goesOn_61 rfl hl (by decide) rfl (fun ls hl => ?_)
                    refine lv_iinc (v := z_25.1 + (nI 1)) (lv' := [(5, .int (z_25.1 + (nI 1))), (3, .long x_61), (2, .int z_12.1), (1, .int z_2.1), (0, .ref h_t)]) hx hb dX9_goesOn_62 hl (k := 1) rfl (congrArg (fun q => z_25.1 + q) (show Int32.ofInt (1) = (nI 1) by decide)) (by decide) rfl (fun ls hl => ?_)
                    refine lv_goto (tgt := 25) hx hb dX9_goesOn_65 (by decide) ?_
                    obtain rfl := Option.some.inj hM
                    exact ih _ hX _ _ _ hP hD hS (lv_sub hl [0, 1, 2, 3, 4] rfl)
              exact hL_25 n _ hn _ _ _ hP hD hS (lv_sub hl [0, 1, 2, 3, 4] rfl)
        exact hL_12 n _ hn _ _ _ hP hD hS (lv_sub hl [0, 1, 2] rfl)
  exact hL_2 n _ hn _ _ _ hP hD hS (lv_sub hl [0, 1] rfl)
noncomputable def b_X9_laysTraces_67 (n_p3 : Nat) (q_2 : Int32 × (Nat → Int64)) (z_43 : Int32 × (Nat → Int64) × (Nat → Int64) × (Nat → Int64)) (j_52 : (Nat → Int64) × (Nat → Int64)) : Int32 × (Nat → Int64) → Option ((Int32 × (Nat → Int64)) ⊕ ((Nat → Int64))) := fun z_67 =>
  if q_2.1 ≤ z_67.1 then some (.inr z_67.2) else gd (inb z_43.1 n_p3) (gd (inb (((nI 18) * z_67.1) + z_67.1) 324) (gd (inb z_43.1 n_p3) (some (.inl (z_67.1 + (nI 1), vp_updL z_67.2 z_43.1.toNatClampNeg ((z_67.2 z_43.1.toNatClampNeg) + (j_52.1 (((nI 18) * z_67.1) + z_67.1).toNatClampNeg)))))))
noncomputable def b_X9_laysTraces_43 (p2 : Int32) (t_saved : Int32) (t_letters : Int32) (t_stage : Int32) (n_p3 : Nat) (q_2 : Int32 × (Nat → Int64)) : Int32 × (Nat → Int64) × (Nat → Int64) × (Nat → Int64) → Option ((Int32 × (Nat → Int64) × (Nat → Int64) × (Nat → Int64)) ⊕ (((Nat → Int64) × (Nat → Int64) × (Nat → Int64)))) := fun z_43 =>
  if p2 < z_43.1 then some (.inr (z_43.2.1, z_43.2.2.1, z_43.2.2.2)) else bd (if z_43.1 ≤ (nI 1) then some (z_43.2.1, z_43.2.2.1) else bd (f_X9_goesOn t_saved t_letters t_stage q_2.1 q_2.2 z_43.2.1 z_43.2.2.1) (fun (q_56 : (Nat → Int64) × (Nat → Int64)) => some (q_56.1, q_56.2))) (fun (j_52 : (Nat → Int64) × (Nat → Int64)) => gd (inb z_43.1 n_p3) (bd (wh (b_X9_laysTraces_67 n_p3 q_2 z_43 j_52) ((nI 0), vp_updL z_43.2.2.2 z_43.1.toNatClampNeg (0 : Int64))) (fun (r_67 : Nat → Int64) => some (.inl (z_43.1 + (nI 1), j_52.1, j_52.2, r_67)))))
noncomputable def b_X9_laysTraces_8 (q_2 : Int32 × (Nat → Int64)) : Int32 × (Nat → Int64) → Option ((Int32 × (Nat → Int64)) ⊕ ((Nat → Int64))) := fun z_8 =>
  if ((nI 18) * q_2.1) ≤ z_8.1 then some (.inr z_8.2) else gd (inb z_8.1 324) (gd (inb z_8.1 324) (some (.inl (z_8.1 + (nI 1), vp_updL z_8.2 z_8.1.toNatClampNeg (q_2.2 z_8.1.toNatClampNeg)))))
noncomputable def f_X9_laysTraces (p1 : Int32) (p2 : Int32) (t_saved : Int32) (t_letters : Int32) (t_stage : Int32) (t_size : Int32) (a_t_now : Nat → Int32) (a_t_matrix : Nat → Int64) (a_t_power : Nat → Int64) (a_t_product : Nat → Int64) (n_p3 : Nat) (a_p3 : Nat → Int64) : Option (Int32 × (Nat → Int64) × (Nat → Int64) × (Nat → Int64) × (Nat → Int64)) :=
  bd (f_X9_laysEdges p1 t_saved t_letters t_stage t_size a_t_now a_t_matrix) (fun (q_2 : Int32 × (Nat → Int64)) => bd (wh (b_X9_laysTraces_8 q_2) ((nI 0), a_t_power)) (fun (r_8 : Nat → Int64) => bd (wh (b_X9_laysTraces_43 p2 t_saved t_letters t_stage n_p3 q_2) ((nI 1), r_8, a_t_product, a_p3)) (fun (r_43 : (Nat → Int64) × (Nat → Int64) × (Nat → Int64)) => some (q_2.1, q_2.2, r_43.1, r_43.2.1, r_43.2.2))))
theorem yq_X9_laysTraces : yq yX9_laysTraces 3 := by unfold yq; decide +kernel
set_option maxHeartbeats 4000000 in
set_option maxRecDepth 100000 in
theorem c_X9_laysTraces (g : GG) (l : Launch) (h_t : Nat) (h_t_now : Nat) (h_t_read : Nat) (h_t_past : Nat) (h_t_text : Nat) (h_t_part : Nat) (h_t_matrix : Nat) (h_t_power : Nat) (h_t_product : Nat) (h_t_poly : Nat) (h_t_old : Nat) (h_t_step : Nat) (h_t_column : Nat) (h_t_moved : Nat) (h_t_traces : Nat) (h_t_signed : Nat) (h_t_plus : Nat) (h_t_minus : Nat) (h_t_walk : Nat) (h_p3 : Nat) (p1 : Int32) (p2 : Int32) (t_saved : Int32) (t_letters : Int32) (t_stage : Int32) (t_size : Int32) (a_t_now : Nat → Int32) (a_t_matrix : Nat → Int64) (a_t_power : Nat → Int64) (a_t_product : Nat → Int64) (n_p3 : Nat) (a_p3 : Nat → Int64) {R : Int32 × (Nat → Int64) × (Nat → Int64) × (Nat → Int64) × (Nat → Int64)} (hM : f_X9_laysTraces p1 p2 t_saved t_letters t_stage t_size a_t_now a_t_matrix a_t_power a_t_product n_p3 a_p3 = some R) : CT g l yX9_laysTraces cX9_laysTraces 6 none 3 69 [.ref h_t, .int p1, .int p2, .ref h_p3] [ob h_t 9 [.ref h_t_now, .ref h_t_read, .ref h_t_past, .int t_saved, .ref h_t_text, .int t_letters, .int t_stage, .ref h_t_part, .int t_size, .ref h_t_matrix, .ref h_t_power, .ref h_t_product, .ref h_t_poly, .ref h_t_old, .ref h_t_step, .ref h_t_column, .ref h_t_moved, .ref h_t_traces, .ref h_t_signed, .ref h_t_plus, .ref h_t_minus, .ref h_t_walk], aI g h_t_now 29 a_t_now, aJ g h_t_matrix 324 a_t_matrix, aJ g h_t_power 324 a_t_power, aJ g h_t_product 324 a_t_product, aJ g h_p3 n_p3 a_p3] [ob h_t 9 [.ref h_t_now, .ref h_t_read, .ref h_t_past, .int t_saved, .ref h_t_text, .int t_letters, .int t_stage, .ref h_t_part, .int R.1, .ref h_t_matrix, .ref h_t_power, .ref h_t_product, .ref h_t_poly, .ref h_t_old, .ref h_t_step, .ref h_t_column, .ref h_t_moved, .ref h_t_traces, .ref h_t_signed, .ref h_t_plus, .ref h_t_minus, .ref h_t_walk], aI g h_t_now 29 a_t_now, aJ g h_t_matrix 324 R.2.1, aJ g h_t_power 324 R.2.2.1, aJ g h_t_product 324 R.2.2.2.1, aJ g h_p3 n_p3 R.2.2.2.2] none := by
  refine ct_v (by decide +kernel) (Nat.le_of_ble_eq_true rfl) ?_
  intro p e s m args below meth c Q A ls cx hP hD hA hl hfin
  obtain ⟨hx, hb, hml, hown, hts, hK⟩ := id cx
  have hl : lv_has ls 6 [(0, .ref h_t), (1, .int p1), (2, .int p2), (3, .ref h_p3)] := hl
  have hS : va_S A s.heap s.heap [] := va_S.rf
  refine lv_aload_n hx hb dX9_laysTraces_0 rfl (lv_at hl 0 rfl) ?_
  refine lv_iload_n hx hb dX9_laysTraces_1 rfl (lv_at hl 1 rfl) ?_
  obtain ⟨q_2, hc_2, hM⟩ := bd_some hM
  refine w_callV cx hP hD hS hA (c_X9_laysEdges g l h_t h_t_now h_t_read h_t_past h_t_text h_t_part h_t_matrix h_t_power h_t_product h_t_poly h_t_old h_t_step h_t_column h_t_moved h_t_traces h_t_signed h_t_plus h_t_minus h_t_walk p1 t_saved t_letters t_stage t_size a_t_now a_t_matrix hc_2) [0, 1, 2] rfl (by decide) rfl [ob h_t 9 [.ref h_t_now, .ref h_t_read, .ref h_t_past, .int t_saved, .ref h_t_text, .int t_letters, .int t_stage, .ref h_t_part, .int q_2.1, .ref h_t_matrix, .ref h_t_power, .ref h_t_product, .ref h_t_poly, .ref h_t_old, .ref h_t_step, .ref h_t_column, .ref h_t_moved, .ref h_t_traces, .ref h_t_signed, .ref h_t_plus, .ref h_t_minus, .ref h_t_walk], aI g h_t_now 29 a_t_now, aJ g h_t_matrix 324 q_2.2, aJ g h_t_power 324 a_t_power, aJ g h_t_product 324 a_t_product, aJ g h_p3 n_p3 a_p3] rfl 0 9 rfl rfl yq_X9_laysEdges rfl m_837 m_839 m_29 m_51 m_840 ⟨Nat.le_of_ble_eq_true rfl, Nat.le_of_ble_eq_true rfl⟩ rfl rfl hl.1 (Nat.le_of_ble_eq_true rfl) dX9_laysTraces_2 ⟨Nat.le_refl 0, Nat.le_refl 0⟩ rfl (fun H locs hP hD hS => ?_)
  refine lv_iconst (v := (nI 0)) hx hb dX9_laysTraces_5 (by decide) ?_
  refine lv_istore (lv' := [(4, .int (nI 0)), (0, .ref h_t), (1, .int p1), (2, .int p2), (3, .ref h_p3)]) hx hb dX9_laysTraces_6 hl (by decide) rfl (fun ls hl => ?_)
  obtain ⟨r_8, hw, hM⟩ := bd_some hM
  obtain ⟨n, hn⟩ := wh_some hw
  clear hw
  have hE_8_0 : ∀ (H : Heap) (locs : List Loc) (ls : Array Slot), va_P (gD g) vwCl [ob h_t 9 [.ref h_t_now, .ref h_t_read, .ref h_t_past, .int t_saved, .ref h_t_text, .int t_letters, .int t_stage, .ref h_t_part, .int q_2.1, .ref h_t_matrix, .ref h_t_power, .ref h_t_product, .ref h_t_poly, .ref h_t_old, .ref h_t_step, .ref h_t_column, .ref h_t_moved, .ref h_t_traces, .ref h_t_signed, .ref h_t_plus, .ref h_t_minus, .ref h_t_walk], aI g h_t_now 29 a_t_now, aJ g h_t_matrix 324 q_2.2, aJ g h_t_power 324 r_8, aJ g h_t_product 324 a_t_product, aJ g h_p3 n_p3 a_p3] H → va_D A [ob h_t 9 [.ref h_t_now, .ref h_t_read, .ref h_t_past, .int t_saved, .ref h_t_text, .int t_letters, .int t_stage, .ref h_t_part, .int q_2.1, .ref h_t_matrix, .ref h_t_power, .ref h_t_product, .ref h_t_poly, .ref h_t_old, .ref h_t_step, .ref h_t_column, .ref h_t_moved, .ref h_t_traces, .ref h_t_signed, .ref h_t_plus, .ref h_t_minus, .ref h_t_walk], aI g h_t_now 29 a_t_now, aJ g h_t_matrix 324 q_2.2, aJ g h_t_power 324 r_8, aJ g h_t_product 324 a_t_product, aJ g h_p3 n_p3 a_p3] → va_S A s.heap H locs → lv_has ls 6 [(0, .ref h_t), (2, .int p2), (3, .ref h_p3)] → W p l e (rmv 3 69) s m args below meth c H locs 0 0 Q (F0 m 40 ls []) := by
    intro H locs ls hP hD hS hl
    refine lv_iconst (v := (nI 1)) hx hb dX9_laysTraces_40 (by decide) ?_
    refine lv_istore (lv' := [(4, .int (nI 1)), (0, .ref h_t), (2, .int p2), (3, .ref h_p3)]) hx hb dX9_laysTraces_41 hl (by decide) rfl (fun ls hl => ?_)
    obtain ⟨r_43, hw, hM⟩ := bd_some hM
    obtain ⟨n, hn⟩ := wh_some hw
    clear hw
    have hE_43_0 : ∀ (H : Heap) (locs : List Loc) (ls : Array Slot), va_P (gD g) vwCl [ob h_t 9 [.ref h_t_now, .ref h_t_read, .ref h_t_past, .int t_saved, .ref h_t_text, .int t_letters, .int t_stage, .ref h_t_part, .int q_2.1, .ref h_t_matrix, .ref h_t_power, .ref h_t_product, .ref h_t_poly, .ref h_t_old, .ref h_t_step, .ref h_t_column, .ref h_t_moved, .ref h_t_traces, .ref h_t_signed, .ref h_t_plus, .ref h_t_minus, .ref h_t_walk], aI g h_t_now 29 a_t_now, aJ g h_t_matrix 324 q_2.2, aJ g h_t_power 324 r_43.1, aJ g h_t_product 324 r_43.2.1, aJ g h_p3 n_p3 r_43.2.2] H → va_D A [ob h_t 9 [.ref h_t_now, .ref h_t_read, .ref h_t_past, .int t_saved, .ref h_t_text, .int t_letters, .int t_stage, .ref h_t_part, .int q_2.1, .ref h_t_matrix, .ref h_t_power, .ref h_t_product, .ref h_t_poly, .ref h_t_old, .ref h_t_step, .ref h_t_column, .ref h_t_moved, .ref h_t_traces, .ref h_t_signed, .ref h_t_plus, .ref h_t_minus, .ref h_t_walk], aI g h_t_now 29 a_t_now, aJ g h_t_matrix 324 q_2.2, aJ g h_t_power 324 r_43.1, aJ g h_t_product 324 r_43.2.1, aJ g h_p3 n_p3 r_43.2.2] → va_S A s.heap H locs → lv_has ls 6 [] → W p l e (rmv 3 69) s m args below meth c H locs 0 0 Q (F0 m 108 ls []) := by
      intro H locs ls hP hD hS hl
      obtain rfl := Option.some.inj hM
      exact hfin 108 _ _ _ dX9_laysTraces_108 hP hD hS
    clear hM
    have hL_43 : ∀ (n : Nat) (z_43 : Int32 × (Nat → Int64) × (Nat → Int64) × (Nat → Int64)), it (b_X9_laysTraces_43 p2 t_saved t_letters t_stage n_p3 q_2) n z_43 = some r_43 → ∀ (H : Heap) (locs : List Loc) (ls : Array Slot), va_P (gD g) vwCl [ob h_t 9 [.ref h_t_now, .ref h_t_read, .ref h_t_past, .int t_saved, .ref h_t_text, .int t_letters, .int t_stage, .ref h_t_part, .int q_2.1, .ref h_t_matrix, .ref h_t_power, .ref h_t_product, .ref h_t_poly, .ref h_t_old, .ref h_t_step, .ref h_t_column, .ref h_t_moved, .ref h_t_traces, .ref h_t_signed, .ref h_t_plus, .ref h_t_minus, .ref h_t_walk], aI g h_t_now 29 a_t_now, aJ g h_t_matrix 324 q_2.2, aJ g h_t_power 324 z_43.2.1, aJ g h_t_product 324 z_43.2.2.1, aJ g h_p3 n_p3 z_43.2.2.2] H → va_D A [ob h_t 9 [.ref h_t_now, .ref h_t_read, .ref h_t_past, .int t_saved, .ref h_t_text, .int t_letters, .int t_stage, .ref h_t_part, .int q_2.1, .ref h_t_matrix, .ref h_t_power, .ref h_t_product, .ref h_t_poly, .ref h_t_old, .ref h_t_step, .ref h_t_column, .ref h_t_moved, .ref h_t_traces, .ref h_t_signed, .ref h_t_plus, .ref h_t_minus, .ref h_t_walk], aI g h_t_now 29 a_t_now, aJ g h_t_matrix 324 q_2.2, aJ g h_t_power 324 z_43.2.1, aJ g h_t_product 324 z_43.2.2.1, aJ g h_p3 n_p3 z_43.2.2.2] → va_S A s.heap H locs → lv_has ls 6 [(4, .int z_43.1), (0, .ref h_t), (2, .int p2), (3, .ref h_p3)] → W p l e (rmv 3 69) s m args below meth c H locs 0 0 Q (F0 m 43 ls []) := by
      intro n
      induction n with
      | zero => intro z_43 hn; exact (it_zero hn).elim
      | succ n ih =>
        intro z_43 hn H locs ls hP hD hS hl
        obtain ⟨x, hM, hX⟩ := it_succ hn
        clear hn
        refine lv_iload hx hb dX9_laysTraces_43 (lv_at hl 0 rfl) ?_
        refine lv_iload_n hx hb dX9_laysTraces_45 rfl (lv_at hl 2 rfl) ?_
        refine lv_icmp_gt (tgt := 108) hx hb dX9_laysTraces_46 (by decide) (fun c_46 => ?_) (fun c_46 => ?_)
        · have hM := if_t hM c_46
          obtain rfl := Option.some.inj hM
          obtain rfl : _ = r_43 := hX
          exact hE_43_0 _ _ _ hP hD hS (lv_sub hl [] rfl)
        · have hM := if_f hM c_46
          refine lv_iload hx hb dX9_laysTraces_49 (lv_at hl 0 rfl) ?_
          refine lv_iconst (v := (nI 1)) hx hb dX9_laysTraces_51 (by decide) ?_
          obtain ⟨j_52, hB, hM⟩ := bd_some hM
          have hJ_52 : ∀ (H : Heap) (locs : List Loc) (ls : Array Slot), va_P (gD g) vwCl [ob h_t 9 [.ref h_t_now, .ref h_t_read, .ref h_t_past, .int t_saved, .ref h_t_text, .int t_letters, .int t_stage, .ref h_t_part, .int q_2.1, .ref h_t_matrix, .ref h_t_power, .ref h_t_product, .ref h_t_poly, .ref h_t_old, .ref h_t_step, .ref h_t_column, .ref h_t_moved, .ref h_t_traces, .ref h_t_signed, .ref h_t_plus, .ref h_t_minus, .ref h_t_walk], aI g h_t_now 29 a_t_now, aJ g h_t_matrix 324 q_2.2, aJ g h_t_power 324 j_52.1, aJ g h_t_product 324 j_52.2, aJ g h_p3 n_p3 z_43.2.2.2] H → va_D A [ob h_t 9 [.ref h_t_now, .ref h_t_read, .ref h_t_past, .int t_saved, .ref h_t_text, .int t_letters, .int t_stage, .ref h_t_part, .int q_2.1, .ref h_t_matrix, .ref h_t_power, .ref h_t_product, .ref h_t_poly, .ref h_t_old, .ref h_t_step, .ref h_t_column, .ref h_t_moved, .ref h_t_traces, .ref h_t_signed, .ref h_t_plus, .ref h_t_minus, .ref h_t_walk], aI g h_t_now 29 a_t_now, aJ g h_t_matrix 324 q_2.2, aJ g h_t_power 324 j_52.1, aJ g h_t_product 324 j_52.2, aJ g h_p3 n_p3 z_43.2.2.2] → va_S A s.heap H locs → lv_has ls 6 [(4, .int z_43.1), (0, .ref h_t), (2, .int p2), (3, .ref h_p3)] → W p l e (rmv 3 69) s m args below meth c H locs 0 0 Q (F0 m 59 ls []) := by
            intro H locs ls hP hD hS hl
            refine lv_aload_n hx hb dX9_laysTraces_59 rfl (lv_at hl 3 rfl) ?_
            refine lv_iload hx hb dX9_laysTraces_60 (lv_at hl 0 rfl) ?_
            refine lv_lconst (v := (0 : Int64)) hx hb dX9_laysTraces_62 (by decide) ?_
            obtain ⟨g_63, hM⟩ := gd_some hM
            refine w_last cx hP hD hS 5 rfl g_63 dX9_laysTraces_63 [ob h_t 9 [.ref h_t_now, .ref h_t_read, .ref h_t_past, .int t_saved, .ref h_t_text, .int t_letters, .int t_stage, .ref h_t_part, .int q_2.1, .ref h_t_matrix, .ref h_t_power, .ref h_t_product, .ref h_t_poly, .ref h_t_old, .ref h_t_step, .ref h_t_column, .ref h_t_moved, .ref h_t_traces, .ref h_t_signed, .ref h_t_plus, .ref h_t_minus, .ref h_t_walk], aI g h_t_now 29 a_t_now, aJ g h_t_matrix 324 q_2.2, aJ g h_t_power 324 j_52.1, aJ g h_t_product 324 j_52.2, aJ g h_p3 n_p3 (vp_updL z_43.2.2.2 z_43.1.toNatClampNeg (0 : Int64))] rfl (fun H locs hP hD hS => ?_)
            refine lv_iconst (v := (nI 0)) hx hb dX9_laysTraces_64 (by decide) ?_
            refine lv_istore (lv' := [(5, .int (nI 0)), (4, .int z_43.1), (0, .ref h_t), (2, .int p2), (3, .ref h_p3)]) hx hb dX9_laysTraces_65 hl (by decide) rfl (fun ls hl => ?_)
            obtain ⟨r_67, hw, hM⟩ := bd_some hM
            obtain ⟨n, hn⟩ := wh_some hw
            clear hw
            have hE_67_0 : ∀ (H : Heap) (locs : List Loc) (ls : Array Slot), va_P (gD g) vwCl [ob h_t 9 [.ref h_t_now, .ref h_t_read, .ref h_t_past, .int t_saved, .ref h_t_text, .int t_letters, .int t_stage, .ref h_t_part, .int q_2.1, .ref h_t_matrix, .ref h_t_power, .ref h_t_product, .ref h_t_poly, .ref h_t_old, .ref h_t_step, .ref h_t_column, .ref h_t_moved, .ref h_t_traces, .ref h_t_signed, .ref h_t_plus, .ref h_t_minus, .ref h_t_walk], aI g h_t_now 29 a_t_now, aJ g h_t_matrix 324 q_2.2, aJ g h_t_power 324 j_52.1, aJ g h_t_product 324 j_52.2, aJ g h_p3 n_p3 r_67] H → va_D A [ob h_t 9 [.ref h_t_now, .ref h_t_read, .ref h_t_past, .int t_saved, .ref h_t_text, .int t_letters, .int t_stage, .ref h_t_part, .int q_2.1, .ref h_t_matrix, .ref h_t_power, .ref h_t_product, .ref h_t_poly, .ref h_t_old, .ref h_t_step, .ref h_t_column, .ref h_t_moved, .ref h_t_traces, .ref h_t_signed, .ref h_t_plus, .ref h_t_minus, .ref h_t_walk], aI g h_t_now 29 a_t_now, aJ g h_t_matrix 324 q_2.2, aJ g h_t_power 324 j_52.1, aJ g h_t_product 324 j_52.2, aJ g h_p3 n_p3 r_67] → va_S A s.heap H locs → lv_has ls 6 [(4, .int z_43.1), (0, .ref h_t), (2, .int p2), (3, .ref h_p3)] → W p l e (rmv 3 69) s m args below meth c H locs 0 0 Q (F0 m 102 ls []) := by
              intro H locs ls hP hD hS hl
              refine lv_iinc (v := z_43.1 + (nI 1)) (lv' := [(4, .int (z_43.1 + (nI 1))), (0, .ref h_t), (2, .int p2), (3, .ref h_p3)]) hx hb dX9_laysTraces_102 hl (k := 0) rfl (congrArg (fun q => z_43.1 + q) (show Int32.ofInt (1) = (nI 1) by decide)) (by decide) rfl (fun ls hl => ?_)
              refine lv_goto (tgt := 43) hx hb dX9_laysTraces_105 (by decide) ?_
              obtain rfl := Option.some.inj hM
              exact ih _ hX _ _ _ hP hD hS (lv_sub hl [0, 1, 2, 3] rfl)
            clear hM
            have hL_67 : ∀ (n : Nat) (z_67 : Int32 × (Nat → Int64)), it (b_X9_laysTraces_67 n_p3 q_2 z_43 j_52) n z_67 = some r_67 → ∀ (H : Heap) (locs : List Loc) (ls : Array Slot), va_P (gD g) vwCl [ob h_t 9 [.ref h_t_now, .ref h_t_read, .ref h_t_past, .int t_saved, .ref h_t_text, .int t_letters, .int t_stage, .ref h_t_part, .int q_2.1, .ref h_t_matrix, .ref h_t_power, .ref h_t_product, .ref h_t_poly, .ref h_t_old, .ref h_t_step, .ref h_t_column, .ref h_t_moved, .ref h_t_traces, .ref h_t_signed, .ref h_t_plus, .ref h_t_minus, .ref h_t_walk], aI g h_t_now 29 a_t_now, aJ g h_t_matrix 324 q_2.2, aJ g h_t_power 324 j_52.1, aJ g h_t_product 324 j_52.2, aJ g h_p3 n_p3 z_67.2] H → va_D A [ob h_t 9 [.ref h_t_now, .ref h_t_read, .ref h_t_past, .int t_saved, .ref h_t_text, .int t_letters, .int t_stage, .ref h_t_part, .int q_2.1, .ref h_t_matrix, .ref h_t_power, .ref h_t_product, .ref h_t_poly, .ref h_t_old, .ref h_t_step, .ref h_t_column, .ref h_t_moved, .ref h_t_traces, .ref h_t_signed, .ref h_t_plus, .ref h_t_minus, .ref h_t_walk], aI g h_t_now 29 a_t_now, aJ g h_t_matrix 324 q_2.2, aJ g h_t_power 324 j_52.1, aJ g h_t_product 324 j_52.2, aJ g h_p3 n_p3 z_67.2] → va_S A s.heap H locs → lv_has ls 6 [(5, .int z_67.1), (4, .int z_43.1), (0, .ref h_t), (2, .int p2), (3, .ref h_p3)] → W p l e (rmv 3 69) s m args below meth c H locs 0 0 Q (F0 m 67 ls []) := by
              intro n
              induction n with
              | zero => intro z_67 hn; exact (it_zero hn).elim
              | succ n ih =>
                intro z_67 hn H locs ls hP hD hS hl
                obtain ⟨x, hM, hX⟩ := it_succ hn
                clear hn
                refine lv_iload hx hb dX9_laysTraces_67 (lv_at hl 0 rfl) ?_
                refine lv_aload_n hx hb dX9_laysTraces_69 rfl (lv_at hl 2 rfl) ?_
                refine w_get cx hP 0 9 8 rfl rfl (by decide) m_652 rfl rfl dX9_laysTraces_70 ?_
                refine lv_icmp_ge (tgt := 102) hx hb dX9_laysTraces_73 (by decide) (fun c_73 => ?_) (fun c_73 => ?_)
                · have hM := if_t hM c_73
                  obtain rfl := Option.some.inj hM
                  obtain rfl : _ = r_67 := hX
                  exact hE_67_0 _ _ _ hP hD hS (lv_sub hl [1, 2, 3, 4] rfl)
                · have hM := if_f hM c_73
                  refine lv_aload_n hx hb dX9_laysTraces_76 rfl (lv_at hl 4 rfl) ?_
                  refine lv_iload hx hb dX9_laysTraces_77 (lv_at hl 1 rfl) ?_
                  refine lv_dup2_11 hx hb dX9_laysTraces_79 rfl rfl ?_
                  obtain ⟨g_80, hM⟩ := gd_some hM
                  refine w_lald cx hP 5 rfl g_80 dX9_laysTraces_80 ?_
                  refine lv_aload_n hx hb dX9_laysTraces_81 rfl (lv_at hl 2 rfl) ?_
                  refine w_get cx hP 0 9 10 rfl rfl (by decide) m_654 rfl rfl dX9_laysTraces_82 ?_
                  refine lv_bipush (v := (nI 18)) hx hb dX9_laysTraces_85 (by decide) ?_
                  refine lv_iload hx hb dX9_laysTraces_87 (lv_at hl 0 rfl) ?_
                  refine lv_imul hx hb dX9_laysTraces_89 ?_
                  refine lv_iload hx hb dX9_laysTraces_90 (lv_at hl 0 rfl) ?_
                  refine lv_iadd hx hb dX9_laysTraces_92 ?_
                  obtain ⟨g_93, hM⟩ := gd_some hM
                  refine w_lald cx hP 3 rfl g_93 dX9_laysTraces_93 ?_
                  refine lv_ladd hx hb dX9_laysTraces_94 ?_
                  obtain ⟨g_95, hM⟩ := gd_some hM
                  refine w_last cx hP hD hS 5 rfl g_95 dX9_laysTraces_95 [ob h_t 9 [.ref h_t_now, .ref h_t_read, .ref h_t_past, .int t_saved, .ref h_t_text, .int t_letters, .int t_stage, .ref h_t_part, .int q_2.1, .ref h_t_matrix, .ref h_t_power, .ref h_t_product, .ref h_t_poly, .ref h_t_old, .ref h_t_step, .ref h_t_column, .ref h_t_moved, .ref h_t_traces, .ref h_t_signed, .ref h_t_plus, .ref h_t_minus, .ref h_t_walk], aI g h_t_now 29 a_t_now, aJ g h_t_matrix 324 q_2.2, aJ g h_t_power 324 j_52.1, aJ g h_t_product 324 j_52.2, aJ g h_p3 n_p3 (vp_updL z_67.2 z_43.1.toNatClampNeg ((z_67.2 z_43.1.toNatClampNeg) + (j_52.1 (((nI 18) * z_67.1) + z_67.1).toNatClampNeg)))] rfl (fun H locs hP hD hS => ?_)
                  refine lv_iinc (v := z_67.1 + (nI 1)) (lv' := [(5, .int (z_67.1 + (nI 1))), (4, .int z_43.1), (0, .ref h_t), (2, .int p2), (3, .ref h_p3)]) hx hb dX9_laysTraces_96 hl (k := 0) rfl (congrArg (fun q => z_67.1 + q) (show Int32.ofInt (1) = (nI 1) by decide)) (by decide) rfl (fun ls hl => ?_)
                  refine lv_goto (tgt := 67) hx hb dX9_laysTraces_99 (by decide) ?_
                  obtain rfl := Option.some.inj hM
                  exact ih _ hX _ _ _ hP hD hS (lv_sub hl [0, 1, 2, 3, 4] rfl)
            exact hL_67 n _ hn _ _ _ hP hD hS (lv_sub hl [0, 1, 2, 3, 4] rfl)
          clear hM
          have hM := hB
          clear hB
          refine lv_icmp_le (tgt := 59) hx hb dX9_laysTraces_52 (by decide) (fun c_52 => ?_) (fun c_52 => ?_)
          · have hM := if_t hM c_52
            obtain rfl := Option.some.inj hM
            exact hJ_52 _ _ _ hP hD hS (lv_sub hl [0, 1, 2, 3] rfl)
          · have hM := if_f hM c_52
            refine lv_aload_n hx hb dX9_laysTraces_55 rfl (lv_at hl 1 rfl) ?_
            obtain ⟨q_56, hc_56, hM⟩ := bd_some hM
            refine w_callV cx hP hD hS hA (c_X9_goesOn g l h_t h_t_now h_t_read h_t_past h_t_text h_t_part h_t_matrix h_t_power h_t_product h_t_poly h_t_old h_t_step h_t_column h_t_moved h_t_traces h_t_signed h_t_plus h_t_minus h_t_walk t_saved t_letters t_stage q_2.1 q_2.2 z_43.2.1 z_43.2.2.1 hc_56) [0, 2, 3, 4] rfl (by decide) rfl [ob h_t 9 [.ref h_t_now, .ref h_t_read, .ref h_t_past, .int t_saved, .ref h_t_text, .int t_letters, .int t_stage, .ref h_t_part, .int q_2.1, .ref h_t_matrix, .ref h_t_power, .ref h_t_product, .ref h_t_poly, .ref h_t_old, .ref h_t_step, .ref h_t_column, .ref h_t_moved, .ref h_t_traces, .ref h_t_signed, .ref h_t_plus, .ref h_t_minus, .ref h_t_walk], aI g h_t_now 29 a_t_now, aJ g h_t_matrix 324 q_2.2, aJ g h_t_power 324 q_56.1, aJ g h_t_product 324 q_56.2, aJ g h_p3 n_p3 z_43.2.2.2] rfl 0 9 rfl rfl yq_X9_goesOn rfl m_841 m_843 m_30 m_51 m_844 ⟨Nat.le_of_ble_eq_true rfl, Nat.le_of_ble_eq_true rfl⟩ rfl rfl hl.1 (Nat.le_of_ble_eq_true rfl) dX9_laysTraces_56 ⟨Nat.le_refl 0, Nat.le_refl 0⟩ rfl (fun H locs hP hD hS => ?_)
            obtain rfl := Option.some.inj hM
            exact hJ_52 _ _ _ hP hD hS (lv_sub hl [0, 1, 2, 3] rfl)
    exact hL_43 n _ hn _ _ _ hP hD hS (lv_sub hl [0, 1, 2, 3] rfl)
  clear hM
  have hL_8 : ∀ (n : Nat) (z_8 : Int32 × (Nat → Int64)), it (b_X9_laysTraces_8 q_2) n z_8 = some r_8 → ∀ (H : Heap) (locs : List Loc) (ls : Array Slot), va_P (gD g) vwCl [ob h_t 9 [.ref h_t_now, .ref h_t_read, .ref h_t_past, .int t_saved, .ref h_t_text, .int t_letters, .int t_stage, .ref h_t_part, .int q_2.1, .ref h_t_matrix, .ref h_t_power, .ref h_t_product, .ref h_t_poly, .ref h_t_old, .ref h_t_step, .ref h_t_column, .ref h_t_moved, .ref h_t_traces, .ref h_t_signed, .ref h_t_plus, .ref h_t_minus, .ref h_t_walk], aI g h_t_now 29 a_t_now, aJ g h_t_matrix 324 q_2.2, aJ g h_t_power 324 z_8.2, aJ g h_t_product 324 a_t_product, aJ g h_p3 n_p3 a_p3] H → va_D A [ob h_t 9 [.ref h_t_now, .ref h_t_read, .ref h_t_past, .int t_saved, .ref h_t_text, .int t_letters, .int t_stage, .ref h_t_part, .int q_2.1, .ref h_t_matrix, .ref h_t_power, .ref h_t_product, .ref h_t_poly, .ref h_t_old, .ref h_t_step, .ref h_t_column, .ref h_t_moved, .ref h_t_traces, .ref h_t_signed, .ref h_t_plus, .ref h_t_minus, .ref h_t_walk], aI g h_t_now 29 a_t_now, aJ g h_t_matrix 324 q_2.2, aJ g h_t_power 324 z_8.2, aJ g h_t_product 324 a_t_product, aJ g h_p3 n_p3 a_p3] → va_S A s.heap H locs → lv_has ls 6 [(4, .int z_8.1), (0, .ref h_t), (2, .int p2), (3, .ref h_p3)] → W p l e (rmv 3 69) s m args below meth c H locs 0 0 Q (F0 m 8 ls []) := by
    intro n
    induction n with
    | zero => intro z_8 hn; exact (it_zero hn).elim
    | succ n ih =>
      intro z_8 hn H locs ls hP hD hS hl
      obtain ⟨x, hM, hX⟩ := it_succ hn
      clear hn
      refine lv_iload hx hb dX9_laysTraces_8 (lv_at hl 0 rfl) ?_
      refine lv_bipush (v := (nI 18)) hx hb dX9_laysTraces_10 (by decide) ?_
      refine lv_aload_n hx hb dX9_laysTraces_12 rfl (lv_at hl 1 rfl) ?_
      refine w_get cx hP 0 9 8 rfl rfl (by decide) m_652 rfl rfl dX9_laysTraces_13 ?_
      refine lv_imul hx hb dX9_laysTraces_16 ?_
      refine lv_icmp_ge (tgt := 40) hx hb dX9_laysTraces_17 (by decide) (fun c_17 => ?_) (fun c_17 => ?_)
      · have hM := if_t hM c_17
        obtain rfl := Option.some.inj hM
        obtain rfl : _ = r_8 := hX
        exact hE_8_0 _ _ _ hP hD hS (lv_sub hl [1, 2, 3] rfl)
      · have hM := if_f hM c_17
        refine lv_aload_n hx hb dX9_laysTraces_20 rfl (lv_at hl 1 rfl) ?_
        refine w_get cx hP 0 9 10 rfl rfl (by decide) m_654 rfl rfl dX9_laysTraces_21 ?_
        refine lv_iload hx hb dX9_laysTraces_24 (lv_at hl 0 rfl) ?_
        refine lv_aload_n hx hb dX9_laysTraces_26 rfl (lv_at hl 1 rfl) ?_
        refine w_get cx hP 0 9 9 rfl rfl (by decide) m_653 rfl rfl dX9_laysTraces_27 ?_
        refine lv_iload hx hb dX9_laysTraces_30 (lv_at hl 0 rfl) ?_
        obtain ⟨g_32, hM⟩ := gd_some hM
        refine w_lald cx hP 2 rfl g_32 dX9_laysTraces_32 ?_
        obtain ⟨g_33, hM⟩ := gd_some hM
        refine w_last cx hP hD hS 3 rfl g_33 dX9_laysTraces_33 [ob h_t 9 [.ref h_t_now, .ref h_t_read, .ref h_t_past, .int t_saved, .ref h_t_text, .int t_letters, .int t_stage, .ref h_t_part, .int q_2.1, .ref h_t_matrix, .ref h_t_power, .ref h_t_product, .ref h_t_poly, .ref h_t_old, .ref h_t_step, .ref h_t_column, .ref h_t_moved, .ref h_t_traces, .ref h_t_signed, .ref h_t_plus, .ref h_t_minus, .ref h_t_walk], aI g h_t_now 29 a_t_now, aJ g h_t_matrix 324 q_2.2, aJ g h_t_power 324 (vp_updL z_8.2 z_8.1.toNatClampNeg (q_2.2 z_8.1.toNatClampNeg)), aJ g h_t_product 324 a_t_product, aJ g h_p3 n_p3 a_p3] rfl (fun H locs hP hD hS => ?_)
        refine lv_iinc (v := z_8.1 + (nI 1)) (lv' := [(4, .int (z_8.1 + (nI 1))), (0, .ref h_t), (2, .int p2), (3, .ref h_p3)]) hx hb dX9_laysTraces_34 hl (k := 0) rfl (congrArg (fun q => z_8.1 + q) (show Int32.ofInt (1) = (nI 1) by decide)) (by decide) rfl (fun ls hl => ?_)
        refine lv_goto (tgt := 8) hx hb dX9_laysTraces_37 (by decide) ?_
        obtain rfl := Option.some.inj hM
        exact ih _ hX _ _ _ hP hD hS (lv_sub hl [0, 1, 2, 3] rfl)
  exact hL_8 n _ hn _ _ _ hP hD hS (lv_sub hl [0, 1, 3, 4] rfl)
noncomputable def f_X9_isLength (p1 : Int32) : Option (Int32) :=
  bd (f_X9_in p1 (nI 1) (nI 18)) (fun (q_4 : Int32) => gd (bq q_4) (some q_4))
theorem yq_X9_isLength : yq yX9_isLength 1 := by unfold yq; decide +kernel
set_option maxHeartbeats 4000000 in
set_option maxRecDepth 100000 in
theorem c_X9_isLength (g : GG) (l : Launch) (p1 : Int32) {R : Int32} (hM : f_X9_isLength p1 = some R) : CT g l yX9_isLength cX9_isLength 1 (some .boolean) 1 22 [.int p1] [] [] (some (.int R)) := by
  refine ct_z (by decide +kernel) (Nat.le_of_ble_eq_true rfl) ?_
  intro p e s m args below meth c Q A ls cx hP hD hA hl hfin
  obtain ⟨hx, hb, hml, hown, hts, hK⟩ := id cx
  have hl : lv_has ls 1 [(0, .int p1)] := hl
  have hS : va_S A s.heap s.heap [] := va_S.rf
  refine lv_iload_n hx hb dX9_isLength_0 rfl (lv_at hl 0 rfl) ?_
  refine lv_iconst (v := (nI 1)) hx hb dX9_isLength_1 (by decide) ?_
  refine lv_bipush (v := (nI 18)) hx hb dX9_isLength_2 (by decide) ?_
  obtain ⟨q_4, hc_4, hM⟩ := bd_some hM
  refine w_callS cx hP hD hS hA (c_X9_in g l p1 (nI 1) (nI 18) hc_4) [] rfl (by decide) rfl [] rfl yq_X9_in m_715 m_716 m_51 m_717 ⟨Nat.le_of_ble_eq_true rfl, Nat.le_of_ble_eq_true rfl⟩ rfl rfl hl.1 (Nat.le_of_ble_eq_true rfl) dX9_isLength_4 ⟨Nat.le_refl 0, Nat.le_refl 0⟩ rfl (fun H locs hP hD hS => ?_)
  obtain ⟨hz, hM⟩ := gd_some hM
  obtain rfl := Option.some.inj hM
  exact hfin 7 _ _ _ dX9_isLength_7 hz hP hD hS
noncomputable def f_X9_walksOf (p1 : Int32) (p2 : Int32) (t_saved : Int32) (t_letters : Int32) (t_stage : Int32) (t_size : Int32) (a_t_now : Nat → Int32) (a_t_matrix : Nat → Int64) (a_t_power : Nat → Int64) (a_t_product : Nat → Int64) (a_t_traces : Nat → Int64) : Option (Int64 × Int32 × (Nat → Int64) × (Nat → Int64) × (Nat → Int64) × (Nat → Int64)) :=
  bd (f_X9_laysTraces p1 p2 t_saved t_letters t_stage t_size a_t_now a_t_matrix a_t_power a_t_product 19 a_t_traces) (fun (q_7 : Int32 × (Nat → Int64) × (Nat → Int64) × (Nat → Int64) × (Nat → Int64)) => gd (inb p2 19) (some (q_7.2.2.2.2 p2.toNatClampNeg, q_7.1, q_7.2.1, q_7.2.2.1, q_7.2.2.2.1, q_7.2.2.2.2)))
theorem yq_X9_walksOf : yq yX9_walksOf 2 := by unfold yq; decide +kernel
set_option maxHeartbeats 4000000 in
set_option maxRecDepth 100000 in
theorem c_X9_walksOf (g : GG) (l : Launch) (h_t : Nat) (h_t_now : Nat) (h_t_read : Nat) (h_t_past : Nat) (h_t_text : Nat) (h_t_part : Nat) (h_t_matrix : Nat) (h_t_power : Nat) (h_t_product : Nat) (h_t_poly : Nat) (h_t_old : Nat) (h_t_step : Nat) (h_t_column : Nat) (h_t_moved : Nat) (h_t_traces : Nat) (h_t_signed : Nat) (h_t_plus : Nat) (h_t_minus : Nat) (h_t_walk : Nat) (p1 : Int32) (p2 : Int32) (t_saved : Int32) (t_letters : Int32) (t_stage : Int32) (t_size : Int32) (a_t_now : Nat → Int32) (a_t_matrix : Nat → Int64) (a_t_power : Nat → Int64) (a_t_product : Nat → Int64) (a_t_traces : Nat → Int64) {R : Int64 × Int32 × (Nat → Int64) × (Nat → Int64) × (Nat → Int64) × (Nat → Int64)} (hM : f_X9_walksOf p1 p2 t_saved t_letters t_stage t_size a_t_now a_t_matrix a_t_power a_t_product a_t_traces = some R) : CT g l yX9_walksOf cX9_walksOf 3 (some .long) 4 94 [.ref h_t, .int p1, .int p2] [ob h_t 9 [.ref h_t_now, .ref h_t_read, .ref h_t_past, .int t_saved, .ref h_t_text, .int t_letters, .int t_stage, .ref h_t_part, .int t_size, .ref h_t_matrix, .ref h_t_power, .ref h_t_product, .ref h_t_poly, .ref h_t_old, .ref h_t_step, .ref h_t_column, .ref h_t_moved, .ref h_t_traces, .ref h_t_signed, .ref h_t_plus, .ref h_t_minus, .ref h_t_walk], aI g h_t_now 29 a_t_now, aJ g h_t_matrix 324 a_t_matrix, aJ g h_t_power 324 a_t_power, aJ g h_t_product 324 a_t_product, aJ g h_t_traces 19 a_t_traces] [ob h_t 9 [.ref h_t_now, .ref h_t_read, .ref h_t_past, .int t_saved, .ref h_t_text, .int t_letters, .int t_stage, .ref h_t_part, .int R.2.1, .ref h_t_matrix, .ref h_t_power, .ref h_t_product, .ref h_t_poly, .ref h_t_old, .ref h_t_step, .ref h_t_column, .ref h_t_moved, .ref h_t_traces, .ref h_t_signed, .ref h_t_plus, .ref h_t_minus, .ref h_t_walk], aI g h_t_now 29 a_t_now, aJ g h_t_matrix 324 R.2.2.1, aJ g h_t_power 324 R.2.2.2.1, aJ g h_t_product 324 R.2.2.2.2.1, aJ g h_t_traces 19 R.2.2.2.2.2] (some (.long R.1)) := by
  refine ct_l (by decide +kernel) (Nat.le_of_ble_eq_true rfl) ?_
  intro p e s m args below meth c Q A ls cx hP hD hA hl hfin
  obtain ⟨hx, hb, hml, hown, hts, hK⟩ := id cx
  have hl : lv_has ls 3 [(0, .ref h_t), (1, .int p1), (2, .int p2)] := hl
  have hS : va_S A s.heap s.heap [] := va_S.rf
  refine lv_aload_n hx hb dX9_walksOf_0 rfl (lv_at hl 0 rfl) ?_
  refine lv_iload_n hx hb dX9_walksOf_1 rfl (lv_at hl 1 rfl) ?_
  refine lv_iload_n hx hb dX9_walksOf_2 rfl (lv_at hl 2 rfl) ?_
  refine lv_aload_n hx hb dX9_walksOf_3 rfl (lv_at hl 0 rfl) ?_
  refine w_get cx hP 0 9 17 rfl rfl (by decide) m_661 rfl rfl dX9_walksOf_4 ?_
  obtain ⟨q_7, hc_7, hM⟩ := bd_some hM
  refine w_callV cx hP hD hS hA (c_X9_laysTraces g l h_t h_t_now h_t_read h_t_past h_t_text h_t_part h_t_matrix h_t_power h_t_product h_t_poly h_t_old h_t_step h_t_column h_t_moved h_t_traces h_t_signed h_t_plus h_t_minus h_t_walk h_t_traces p1 p2 t_saved t_letters t_stage t_size a_t_now a_t_matrix a_t_power a_t_product 19 a_t_traces hc_7) [0, 1, 2, 3, 4, 5] rfl (by decide) rfl [ob h_t 9 [.ref h_t_now, .ref h_t_read, .ref h_t_past, .int t_saved, .ref h_t_text, .int t_letters, .int t_stage, .ref h_t_part, .int q_7.1, .ref h_t_matrix, .ref h_t_power, .ref h_t_product, .ref h_t_poly, .ref h_t_old, .ref h_t_step, .ref h_t_column, .ref h_t_moved, .ref h_t_traces, .ref h_t_signed, .ref h_t_plus, .ref h_t_minus, .ref h_t_walk], aI g h_t_now 29 a_t_now, aJ g h_t_matrix 324 q_7.2.1, aJ g h_t_power 324 q_7.2.2.1, aJ g h_t_product 324 q_7.2.2.2.1, aJ g h_t_traces 19 q_7.2.2.2.2] rfl 0 9 rfl rfl yq_X9_laysTraces rfl m_833 m_835 m_28 m_51 m_836 ⟨Nat.le_of_ble_eq_true rfl, Nat.le_of_ble_eq_true rfl⟩ rfl rfl hl.1 (Nat.le_of_ble_eq_true rfl) dX9_walksOf_7 ⟨Nat.le_refl 0, Nat.le_refl 0⟩ rfl (fun H locs hP hD hS => ?_)
  refine lv_aload_n hx hb dX9_walksOf_10 rfl (lv_at hl 0 rfl) ?_
  refine w_get cx hP 0 9 17 rfl rfl (by decide) m_661 rfl rfl dX9_walksOf_11 ?_
  refine lv_iload_n hx hb dX9_walksOf_14 rfl (lv_at hl 2 rfl) ?_
  obtain ⟨g_15, hM⟩ := gd_some hM
  refine w_lald cx hP 5 rfl g_15 dX9_walksOf_15 ?_
  obtain rfl := Option.some.inj hM
  exact hfin 16 _ _ _ dX9_walksOf_16 hP hD hS
noncomputable def f_X9_walks (p1 : Int32) (t_saved : Int32) (t_letters : Int32) (t_stage : Int32) (t_size : Int32) (a_t_now : Nat → Int32) (a_t_matrix : Nat → Int64) (a_t_power : Nat → Int64) (a_t_product : Nat → Int64) (a_t_traces : Nat → Int64) : Option (Int64 × Int32 × (Nat → Int64) × (Nat → Int64) × (Nat → Int64) × (Nat → Int64)) :=
  bd (f_X9_isLength p1) (fun (q_1 : Int32) => if q_1 = 0 then some ((-9223372036854775808 : Int64), t_size, a_t_matrix, a_t_power, a_t_product, a_t_traces) else bd (f_X9_walksOf (nI 0) p1 t_saved t_letters t_stage t_size a_t_now a_t_matrix a_t_power a_t_product a_t_traces) (fun (q_10 : Int64 × Int32 × (Nat → Int64) × (Nat → Int64) × (Nat → Int64) × (Nat → Int64)) => some (q_10.1, q_10.2.1, q_10.2.2.1, q_10.2.2.2.1, q_10.2.2.2.2.1, q_10.2.2.2.2.2)))
theorem yq_X9_walks : yq yX9_walks 1 := by unfold yq; decide +kernel
set_option maxHeartbeats 4000000 in
set_option maxRecDepth 100000 in
theorem c_X9_walks (g : GG) (l : Launch) (h_t : Nat) (h_t_now : Nat) (h_t_read : Nat) (h_t_past : Nat) (h_t_text : Nat) (h_t_part : Nat) (h_t_matrix : Nat) (h_t_power : Nat) (h_t_product : Nat) (h_t_poly : Nat) (h_t_old : Nat) (h_t_step : Nat) (h_t_column : Nat) (h_t_moved : Nat) (h_t_traces : Nat) (h_t_signed : Nat) (h_t_plus : Nat) (h_t_minus : Nat) (h_t_walk : Nat) (p1 : Int32) (t_saved : Int32) (t_letters : Int32) (t_stage : Int32) (t_size : Int32) (a_t_now : Nat → Int32) (a_t_matrix : Nat → Int64) (a_t_power : Nat → Int64) (a_t_product : Nat → Int64) (a_t_traces : Nat → Int64) {R : Int64 × Int32 × (Nat → Int64) × (Nat → Int64) × (Nat → Int64) × (Nat → Int64)} (hM : f_X9_walks p1 t_saved t_letters t_stage t_size a_t_now a_t_matrix a_t_power a_t_product a_t_traces = some R) : CT g l yX9_walks cX9_walks 2 (some .long) 5 116 [.ref h_t, .int p1] [ob h_t 9 [.ref h_t_now, .ref h_t_read, .ref h_t_past, .int t_saved, .ref h_t_text, .int t_letters, .int t_stage, .ref h_t_part, .int t_size, .ref h_t_matrix, .ref h_t_power, .ref h_t_product, .ref h_t_poly, .ref h_t_old, .ref h_t_step, .ref h_t_column, .ref h_t_moved, .ref h_t_traces, .ref h_t_signed, .ref h_t_plus, .ref h_t_minus, .ref h_t_walk], aI g h_t_now 29 a_t_now, aJ g h_t_matrix 324 a_t_matrix, aJ g h_t_power 324 a_t_power, aJ g h_t_product 324 a_t_product, aJ g h_t_traces 19 a_t_traces] [ob h_t 9 [.ref h_t_now, .ref h_t_read, .ref h_t_past, .int t_saved, .ref h_t_text, .int t_letters, .int t_stage, .ref h_t_part, .int R.2.1, .ref h_t_matrix, .ref h_t_power, .ref h_t_product, .ref h_t_poly, .ref h_t_old, .ref h_t_step, .ref h_t_column, .ref h_t_moved, .ref h_t_traces, .ref h_t_signed, .ref h_t_plus, .ref h_t_minus, .ref h_t_walk], aI g h_t_now 29 a_t_now, aJ g h_t_matrix 324 R.2.2.1, aJ g h_t_power 324 R.2.2.2.1, aJ g h_t_product 324 R.2.2.2.2.1, aJ g h_t_traces 19 R.2.2.2.2.2] (some (.long R.1)) := by
  refine ct_l (by decide +kernel) (Nat.le_of_ble_eq_true rfl) ?_
  intro p e s m args below meth c Q A ls cx hP hD hA hl hfin
  obtain ⟨hx, hb, hml, hown, hts, hK⟩ := id cx
  have hl : lv_has ls 2 [(0, .ref h_t), (1, .int p1)] := hl
  have hS : va_S A s.heap s.heap [] := va_S.rf
  refine lv_iload_n hx hb dX9_walks_0 rfl (lv_at hl 1 rfl) ?_
  obtain ⟨q_1, hc_1, hM⟩ := bd_some hM
  refine w_callS cx hP hD hS hA (c_X9_isLength g l p1 hc_1) [] rfl (by decide) rfl [ob h_t 9 [.ref h_t_now, .ref h_t_read, .ref h_t_past, .int t_saved, .ref h_t_text, .int t_letters, .int t_stage, .ref h_t_part, .int t_size, .ref h_t_matrix, .ref h_t_power, .ref h_t_product, .ref h_t_poly, .ref h_t_old, .ref h_t_step, .ref h_t_column, .ref h_t_moved, .ref h_t_traces, .ref h_t_signed, .ref h_t_plus, .ref h_t_minus, .ref h_t_walk], aI g h_t_now 29 a_t_now, aJ g h_t_matrix 324 a_t_matrix, aJ g h_t_power 324 a_t_power, aJ g h_t_product 324 a_t_product, aJ g h_t_traces 19 a_t_traces] rfl yq_X9_isLength m_826 m_827 m_51 m_828 ⟨Nat.le_of_ble_eq_true rfl, Nat.le_of_ble_eq_true rfl⟩ rfl rfl hl.1 (Nat.le_of_ble_eq_true rfl) dX9_walks_1 ⟨Nat.le_refl 0, Nat.le_refl 0⟩ rfl (fun H locs hP hD hS => ?_)
  refine lv_if_eq (tgt := 16) hx hb dX9_walks_4 (by decide) (fun c_4 => ?_) (fun c_4 => ?_)
  · have hM := if_t hM c_4
    refine lv_ldc2 hx hb hown (hts _ m_845) dX9_walks_16 ?_
    obtain rfl := Option.some.inj hM
    exact hfin 19 _ _ _ dX9_walks_19 hP hD hS
  · have hM := if_f hM c_4
    refine lv_aload_n hx hb dX9_walks_7 rfl (lv_at hl 0 rfl) ?_
    refine lv_iconst (v := (nI 0)) hx hb dX9_walks_8 (by decide) ?_
    refine lv_iload_n hx hb dX9_walks_9 rfl (lv_at hl 1 rfl) ?_
    obtain ⟨q_10, hc_10, hM⟩ := bd_some hM
    refine w_callV cx hP hD hS hA (c_X9_walksOf g l h_t h_t_now h_t_read h_t_past h_t_text h_t_part h_t_matrix h_t_power h_t_product h_t_poly h_t_old h_t_step h_t_column h_t_moved h_t_traces h_t_signed h_t_plus h_t_minus h_t_walk (nI 0) p1 t_saved t_letters t_stage t_size a_t_now a_t_matrix a_t_power a_t_product a_t_traces hc_10) [0, 1, 2, 3, 4, 5] rfl (by decide) rfl [ob h_t 9 [.ref h_t_now, .ref h_t_read, .ref h_t_past, .int t_saved, .ref h_t_text, .int t_letters, .int t_stage, .ref h_t_part, .int q_10.2.1, .ref h_t_matrix, .ref h_t_power, .ref h_t_product, .ref h_t_poly, .ref h_t_old, .ref h_t_step, .ref h_t_column, .ref h_t_moved, .ref h_t_traces, .ref h_t_signed, .ref h_t_plus, .ref h_t_minus, .ref h_t_walk], aI g h_t_now 29 a_t_now, aJ g h_t_matrix 324 q_10.2.2.1, aJ g h_t_power 324 q_10.2.2.2.1, aJ g h_t_product 324 q_10.2.2.2.2.1, aJ g h_t_traces 19 q_10.2.2.2.2.2] rfl 0 9 rfl rfl yq_X9_walksOf rfl m_829 m_831 m_27 m_51 m_832 ⟨Nat.le_of_ble_eq_true rfl, Nat.le_of_ble_eq_true rfl⟩ rfl rfl hl.1 (Nat.le_of_ble_eq_true rfl) dX9_walks_10 ⟨Nat.le_refl 0, Nat.le_refl 0⟩ rfl (fun H locs hP hD hS => ?_)
    refine lv_goto (tgt := 19) hx hb dX9_walks_13 (by decide) ?_
    obtain rfl := Option.some.inj hM
    exact hfin 19 _ _ _ dX9_walks_19 hP hD hS
noncomputable def f_X9_signedWalks (p1 : Int32) (t_saved : Int32) (t_letters : Int32) (t_stage : Int32) (t_size : Int32) (a_t_now : Nat → Int32) (a_t_matrix : Nat → Int64) (a_t_power : Nat → Int64) (a_t_product : Nat → Int64) (a_t_traces : Nat → Int64) : Option (Int64 × Int32 × (Nat → Int64) × (Nat → Int64) × (Nat → Int64) × (Nat → Int64)) :=
  bd (f_X9_isLength p1) (fun (q_1 : Int32) => if q_1 = 0 then some ((-9223372036854775808 : Int64), t_size, a_t_matrix, a_t_power, a_t_product, a_t_traces) else bd (f_X9_walksOf (nI 1) p1 t_saved t_letters t_stage t_size a_t_now a_t_matrix a_t_power a_t_product a_t_traces) (fun (q_10 : Int64 × Int32 × (Nat → Int64) × (Nat → Int64) × (Nat → Int64) × (Nat → Int64)) => some (q_10.1, q_10.2.1, q_10.2.2.1, q_10.2.2.2.1, q_10.2.2.2.2.1, q_10.2.2.2.2.2)))
theorem yq_X9_signedWalks : yq yX9_signedWalks 1 := by unfold yq; decide +kernel
set_option maxHeartbeats 4000000 in
set_option maxRecDepth 100000 in
theorem c_X9_signedWalks (g : GG) (l : Launch) (h_t : Nat) (h_t_now : Nat) (h_t_read : Nat) (h_t_past : Nat) (h_t_text : Nat) (h_t_part : Nat) (h_t_matrix : Nat) (h_t_power : Nat) (h_t_product : Nat) (h_t_poly : Nat) (h_t_old : Nat) (h_t_step : Nat) (h_t_column : Nat) (h_t_moved : Nat) (h_t_traces : Nat) (h_t_signed : Nat) (h_t_plus : Nat) (h_t_minus : Nat) (h_t_walk : Nat) (p1 : Int32) (t_saved : Int32) (t_letters : Int32) (t_stage : Int32) (t_size : Int32) (a_t_now : Nat → Int32) (a_t_matrix : Nat → Int64) (a_t_power : Nat → Int64) (a_t_product : Nat → Int64) (a_t_traces : Nat → Int64) {R : Int64 × Int32 × (Nat → Int64) × (Nat → Int64) × (Nat → Int64) × (Nat → Int64)} (hM : f_X9_signedWalks p1 t_saved t_letters t_stage t_size a_t_now a_t_matrix a_t_power a_t_product a_t_traces = some R) : CT g l yX9_signedWalks cX9_signedWalks 2 (some .long) 5 116 [.ref h_t, .int p1] [ob h_t 9 [.ref h_t_now, .ref h_t_read, .ref h_t_past, .int t_saved, .ref h_t_text, .int t_letters, .int t_stage, .ref h_t_part, .int t_size, .ref h_t_matrix, .ref h_t_power, .ref h_t_product, .ref h_t_poly, .ref h_t_old, .ref h_t_step, .ref h_t_column, .ref h_t_moved, .ref h_t_traces, .ref h_t_signed, .ref h_t_plus, .ref h_t_minus, .ref h_t_walk], aI g h_t_now 29 a_t_now, aJ g h_t_matrix 324 a_t_matrix, aJ g h_t_power 324 a_t_power, aJ g h_t_product 324 a_t_product, aJ g h_t_traces 19 a_t_traces] [ob h_t 9 [.ref h_t_now, .ref h_t_read, .ref h_t_past, .int t_saved, .ref h_t_text, .int t_letters, .int t_stage, .ref h_t_part, .int R.2.1, .ref h_t_matrix, .ref h_t_power, .ref h_t_product, .ref h_t_poly, .ref h_t_old, .ref h_t_step, .ref h_t_column, .ref h_t_moved, .ref h_t_traces, .ref h_t_signed, .ref h_t_plus, .ref h_t_minus, .ref h_t_walk], aI g h_t_now 29 a_t_now, aJ g h_t_matrix 324 R.2.2.1, aJ g h_t_power 324 R.2.2.2.1, aJ g h_t_product 324 R.2.2.2.2.1, aJ g h_t_traces 19 R.2.2.2.2.2] (some (.long R.1)) := by
  refine ct_l (by decide +kernel) (Nat.le_of_ble_eq_true rfl) ?_
  intro p e s m args below meth c Q A ls cx hP hD hA hl hfin
  obtain ⟨hx, hb, hml, hown, hts, hK⟩ := id cx
  have hl : lv_has ls 2 [(0, .ref h_t), (1, .int p1)] := hl
  have hS : va_S A s.heap s.heap [] := va_S.rf
  refine lv_iload_n hx hb dX9_signedWalks_0 rfl (lv_at hl 1 rfl) ?_
  obtain ⟨q_1, hc_1, hM⟩ := bd_some hM
  refine w_callS cx hP hD hS hA (c_X9_isLength g l p1 hc_1) [] rfl (by decide) rfl [ob h_t 9 [.ref h_t_now, .ref h_t_read, .ref h_t_past, .int t_saved, .ref h_t_text, .int t_letters, .int t_stage, .ref h_t_part, .int t_size, .ref h_t_matrix, .ref h_t_power, .ref h_t_product, .ref h_t_poly, .ref h_t_old, .ref h_t_step, .ref h_t_column, .ref h_t_moved, .ref h_t_traces, .ref h_t_signed, .ref h_t_plus, .ref h_t_minus, .ref h_t_walk], aI g h_t_now 29 a_t_now, aJ g h_t_matrix 324 a_t_matrix, aJ g h_t_power 324 a_t_power, aJ g h_t_product 324 a_t_product, aJ g h_t_traces 19 a_t_traces] rfl yq_X9_isLength m_826 m_827 m_51 m_828 ⟨Nat.le_of_ble_eq_true rfl, Nat.le_of_ble_eq_true rfl⟩ rfl rfl hl.1 (Nat.le_of_ble_eq_true rfl) dX9_signedWalks_1 ⟨Nat.le_refl 0, Nat.le_refl 0⟩ rfl (fun H locs hP hD hS => ?_)
  refine lv_if_eq (tgt := 16) hx hb dX9_signedWalks_4 (by decide) (fun c_4 => ?_) (fun c_4 => ?_)
  · have hM := if_t hM c_4
    refine lv_ldc2 hx hb hown (hts _ m_845) dX9_signedWalks_16 ?_
    obtain rfl := Option.some.inj hM
    exact hfin 19 _ _ _ dX9_signedWalks_19 hP hD hS
  · have hM := if_f hM c_4
    refine lv_aload_n hx hb dX9_signedWalks_7 rfl (lv_at hl 0 rfl) ?_
    refine lv_iconst (v := (nI 1)) hx hb dX9_signedWalks_8 (by decide) ?_
    refine lv_iload_n hx hb dX9_signedWalks_9 rfl (lv_at hl 1 rfl) ?_
    obtain ⟨q_10, hc_10, hM⟩ := bd_some hM
    refine w_callV cx hP hD hS hA (c_X9_walksOf g l h_t h_t_now h_t_read h_t_past h_t_text h_t_part h_t_matrix h_t_power h_t_product h_t_poly h_t_old h_t_step h_t_column h_t_moved h_t_traces h_t_signed h_t_plus h_t_minus h_t_walk (nI 1) p1 t_saved t_letters t_stage t_size a_t_now a_t_matrix a_t_power a_t_product a_t_traces hc_10) [0, 1, 2, 3, 4, 5] rfl (by decide) rfl [ob h_t 9 [.ref h_t_now, .ref h_t_read, .ref h_t_past, .int t_saved, .ref h_t_text, .int t_letters, .int t_stage, .ref h_t_part, .int q_10.2.1, .ref h_t_matrix, .ref h_t_power, .ref h_t_product, .ref h_t_poly, .ref h_t_old, .ref h_t_step, .ref h_t_column, .ref h_t_moved, .ref h_t_traces, .ref h_t_signed, .ref h_t_plus, .ref h_t_minus, .ref h_t_walk], aI g h_t_now 29 a_t_now, aJ g h_t_matrix 324 q_10.2.2.1, aJ g h_t_power 324 q_10.2.2.2.1, aJ g h_t_product 324 q_10.2.2.2.2.1, aJ g h_t_traces 19 q_10.2.2.2.2.2] rfl 0 9 rfl rfl yq_X9_walksOf rfl m_829 m_831 m_27 m_51 m_832 ⟨Nat.le_of_ble_eq_true rfl, Nat.le_of_ble_eq_true rfl⟩ rfl rfl hl.1 (Nat.le_of_ble_eq_true rfl) dX9_signedWalks_10 ⟨Nat.le_refl 0, Nat.le_refl 0⟩ rfl (fun H locs hP hD hS => ?_)
    refine lv_goto (tgt := 19) hx hb dX9_signedWalks_13 (by decide) ?_
    obtain rfl := Option.some.inj hM
    exact hfin 19 _ _ _ dX9_signedWalks_19 hP hD hS
noncomputable def f_X9_coverWalks (p1 : Int32) (t_saved : Int32) (t_letters : Int32) (t_stage : Int32) (t_size : Int32) (a_t_now : Nat → Int32) (a_t_matrix : Nat → Int64) (a_t_power : Nat → Int64) (a_t_product : Nat → Int64) (a_t_traces : Nat → Int64) : Option (Int64 × Int32 × (Nat → Int64) × (Nat → Int64) × (Nat → Int64) × (Nat → Int64)) :=
  bd (f_X9_isLength p1) (fun (q_1 : Int32) => if q_1 = 0 then some ((-9223372036854775808 : Int64), t_size, a_t_matrix, a_t_power, a_t_product, a_t_traces) else bd (f_X9_walksOf (nI 0) p1 t_saved t_letters t_stage t_size a_t_now a_t_matrix a_t_power a_t_product a_t_traces) (fun (q_10 : Int64 × Int32 × (Nat → Int64) × (Nat → Int64) × (Nat → Int64) × (Nat → Int64)) => bd (f_X9_walksOf (nI 1) p1 t_saved t_letters t_stage q_10.2.1 a_t_now q_10.2.2.1 q_10.2.2.2.1 q_10.2.2.2.2.1 q_10.2.2.2.2.2) (fun (q_16 : Int64 × Int32 × (Nat → Int64) × (Nat → Int64) × (Nat → Int64) × (Nat → Int64)) => some (q_10.1 + q_16.1, q_16.2.1, q_16.2.2.1, q_16.2.2.2.1, q_16.2.2.2.2.1, q_16.2.2.2.2.2))))
theorem yq_X9_coverWalks : yq yX9_coverWalks 1 := by unfold yq; decide +kernel
set_option maxHeartbeats 4000000 in
set_option maxRecDepth 100000 in
theorem c_X9_coverWalks (g : GG) (l : Launch) (h_t : Nat) (h_t_now : Nat) (h_t_read : Nat) (h_t_past : Nat) (h_t_text : Nat) (h_t_part : Nat) (h_t_matrix : Nat) (h_t_power : Nat) (h_t_product : Nat) (h_t_poly : Nat) (h_t_old : Nat) (h_t_step : Nat) (h_t_column : Nat) (h_t_moved : Nat) (h_t_traces : Nat) (h_t_signed : Nat) (h_t_plus : Nat) (h_t_minus : Nat) (h_t_walk : Nat) (p1 : Int32) (t_saved : Int32) (t_letters : Int32) (t_stage : Int32) (t_size : Int32) (a_t_now : Nat → Int32) (a_t_matrix : Nat → Int64) (a_t_power : Nat → Int64) (a_t_product : Nat → Int64) (a_t_traces : Nat → Int64) {R : Int64 × Int32 × (Nat → Int64) × (Nat → Int64) × (Nat → Int64) × (Nat → Int64)} (hM : f_X9_coverWalks p1 t_saved t_letters t_stage t_size a_t_now a_t_matrix a_t_power a_t_product a_t_traces = some R) : CT g l yX9_coverWalks cX9_coverWalks 2 (some .long) 5 116 [.ref h_t, .int p1] [ob h_t 9 [.ref h_t_now, .ref h_t_read, .ref h_t_past, .int t_saved, .ref h_t_text, .int t_letters, .int t_stage, .ref h_t_part, .int t_size, .ref h_t_matrix, .ref h_t_power, .ref h_t_product, .ref h_t_poly, .ref h_t_old, .ref h_t_step, .ref h_t_column, .ref h_t_moved, .ref h_t_traces, .ref h_t_signed, .ref h_t_plus, .ref h_t_minus, .ref h_t_walk], aI g h_t_now 29 a_t_now, aJ g h_t_matrix 324 a_t_matrix, aJ g h_t_power 324 a_t_power, aJ g h_t_product 324 a_t_product, aJ g h_t_traces 19 a_t_traces] [ob h_t 9 [.ref h_t_now, .ref h_t_read, .ref h_t_past, .int t_saved, .ref h_t_text, .int t_letters, .int t_stage, .ref h_t_part, .int R.2.1, .ref h_t_matrix, .ref h_t_power, .ref h_t_product, .ref h_t_poly, .ref h_t_old, .ref h_t_step, .ref h_t_column, .ref h_t_moved, .ref h_t_traces, .ref h_t_signed, .ref h_t_plus, .ref h_t_minus, .ref h_t_walk], aI g h_t_now 29 a_t_now, aJ g h_t_matrix 324 R.2.2.1, aJ g h_t_power 324 R.2.2.2.1, aJ g h_t_product 324 R.2.2.2.2.1, aJ g h_t_traces 19 R.2.2.2.2.2] (some (.long R.1)) := by
  refine ct_l (by decide +kernel) (Nat.le_of_ble_eq_true rfl) ?_
  intro p e s m args below meth c Q A ls cx hP hD hA hl hfin
  obtain ⟨hx, hb, hml, hown, hts, hK⟩ := id cx
  have hl : lv_has ls 2 [(0, .ref h_t), (1, .int p1)] := hl
  have hS : va_S A s.heap s.heap [] := va_S.rf
  refine lv_iload_n hx hb dX9_coverWalks_0 rfl (lv_at hl 1 rfl) ?_
  obtain ⟨q_1, hc_1, hM⟩ := bd_some hM
  refine w_callS cx hP hD hS hA (c_X9_isLength g l p1 hc_1) [] rfl (by decide) rfl [ob h_t 9 [.ref h_t_now, .ref h_t_read, .ref h_t_past, .int t_saved, .ref h_t_text, .int t_letters, .int t_stage, .ref h_t_part, .int t_size, .ref h_t_matrix, .ref h_t_power, .ref h_t_product, .ref h_t_poly, .ref h_t_old, .ref h_t_step, .ref h_t_column, .ref h_t_moved, .ref h_t_traces, .ref h_t_signed, .ref h_t_plus, .ref h_t_minus, .ref h_t_walk], aI g h_t_now 29 a_t_now, aJ g h_t_matrix 324 a_t_matrix, aJ g h_t_power 324 a_t_power, aJ g h_t_product 324 a_t_product, aJ g h_t_traces 19 a_t_traces] rfl yq_X9_isLength m_826 m_827 m_51 m_828 ⟨Nat.le_of_ble_eq_true rfl, Nat.le_of_ble_eq_true rfl⟩ rfl rfl hl.1 (Nat.le_of_ble_eq_true rfl) dX9_coverWalks_1 ⟨Nat.le_refl 0, Nat.le_refl 0⟩ rfl (fun H locs hP hD hS => ?_)
  refine lv_if_eq (tgt := 23) hx hb dX9_coverWalks_4 (by decide) (fun c_4 => ?_) (fun c_4 => ?_)
  · have hM := if_t hM c_4
    refine lv_ldc2 hx hb hown (hts _ m_845) dX9_coverWalks_23 ?_
    obtain rfl := Option.some.inj hM
    exact hfin 26 _ _ _ dX9_coverWalks_26 hP hD hS
  · have hM := if_f hM c_4
    refine lv_aload_n hx hb dX9_coverWalks_7 rfl (lv_at hl 0 rfl) ?_
    refine lv_iconst (v := (nI 0)) hx hb dX9_coverWalks_8 (by decide) ?_
    refine lv_iload_n hx hb dX9_coverWalks_9 rfl (lv_at hl 1 rfl) ?_
    obtain ⟨q_10, hc_10, hM⟩ := bd_some hM
    refine w_callV cx hP hD hS hA (c_X9_walksOf g l h_t h_t_now h_t_read h_t_past h_t_text h_t_part h_t_matrix h_t_power h_t_product h_t_poly h_t_old h_t_step h_t_column h_t_moved h_t_traces h_t_signed h_t_plus h_t_minus h_t_walk (nI 0) p1 t_saved t_letters t_stage t_size a_t_now a_t_matrix a_t_power a_t_product a_t_traces hc_10) [0, 1, 2, 3, 4, 5] rfl (by decide) rfl [ob h_t 9 [.ref h_t_now, .ref h_t_read, .ref h_t_past, .int t_saved, .ref h_t_text, .int t_letters, .int t_stage, .ref h_t_part, .int q_10.2.1, .ref h_t_matrix, .ref h_t_power, .ref h_t_product, .ref h_t_poly, .ref h_t_old, .ref h_t_step, .ref h_t_column, .ref h_t_moved, .ref h_t_traces, .ref h_t_signed, .ref h_t_plus, .ref h_t_minus, .ref h_t_walk], aI g h_t_now 29 a_t_now, aJ g h_t_matrix 324 q_10.2.2.1, aJ g h_t_power 324 q_10.2.2.2.1, aJ g h_t_product 324 q_10.2.2.2.2.1, aJ g h_t_traces 19 q_10.2.2.2.2.2] rfl 0 9 rfl rfl yq_X9_walksOf rfl m_829 m_831 m_27 m_51 m_832 ⟨Nat.le_of_ble_eq_true rfl, Nat.le_of_ble_eq_true rfl⟩ rfl rfl hl.1 (Nat.le_of_ble_eq_true rfl) dX9_coverWalks_10 ⟨Nat.le_refl 0, Nat.le_refl 0⟩ rfl (fun H locs hP hD hS => ?_)
    refine lv_aload_n hx hb dX9_coverWalks_13 rfl (lv_at hl 0 rfl) ?_
    refine lv_iconst (v := (nI 1)) hx hb dX9_coverWalks_14 (by decide) ?_
    refine lv_iload_n hx hb dX9_coverWalks_15 rfl (lv_at hl 1 rfl) ?_
    obtain ⟨q_16, hc_16, hM⟩ := bd_some hM
    refine w_callV cx hP hD hS hA (c_X9_walksOf g l h_t h_t_now h_t_read h_t_past h_t_text h_t_part h_t_matrix h_t_power h_t_product h_t_poly h_t_old h_t_step h_t_column h_t_moved h_t_traces h_t_signed h_t_plus h_t_minus h_t_walk (nI 1) p1 t_saved t_letters t_stage q_10.2.1 a_t_now q_10.2.2.1 q_10.2.2.2.1 q_10.2.2.2.2.1 q_10.2.2.2.2.2 hc_16) [0, 1, 2, 3, 4, 5] rfl (by decide) rfl [ob h_t 9 [.ref h_t_now, .ref h_t_read, .ref h_t_past, .int t_saved, .ref h_t_text, .int t_letters, .int t_stage, .ref h_t_part, .int q_16.2.1, .ref h_t_matrix, .ref h_t_power, .ref h_t_product, .ref h_t_poly, .ref h_t_old, .ref h_t_step, .ref h_t_column, .ref h_t_moved, .ref h_t_traces, .ref h_t_signed, .ref h_t_plus, .ref h_t_minus, .ref h_t_walk], aI g h_t_now 29 a_t_now, aJ g h_t_matrix 324 q_16.2.2.1, aJ g h_t_power 324 q_16.2.2.2.1, aJ g h_t_product 324 q_16.2.2.2.2.1, aJ g h_t_traces 19 q_16.2.2.2.2.2] rfl 0 9 rfl rfl yq_X9_walksOf rfl m_829 m_831 m_27 m_51 m_832 ⟨Nat.le_of_ble_eq_true rfl, Nat.le_of_ble_eq_true rfl⟩ rfl rfl hl.1 (Nat.le_of_ble_eq_true rfl) dX9_coverWalks_16 ⟨Nat.le_refl 0, Nat.le_refl 0⟩ rfl (fun H locs hP hD hS => ?_)
    refine lv_ladd hx hb dX9_coverWalks_19 ?_
    refine lv_goto (tgt := 26) hx hb dX9_coverWalks_20 (by decide) ?_
    obtain rfl := Option.some.inj hM
    exact hfin 26 _ _ _ dX9_coverWalks_26 hP hD hS
noncomputable def b_X9_laysPrimes_45 (z_22 : Int32 × (Nat → Int64) × (Nat → Int64)) : Int32 × Int64 × Int64 → Option ((Int32 × Int64 × Int64) ⊕ ((Int64 × Int64))) := fun z_45 =>
  if z_22.1 ≤ z_45.1 then some (.inr (z_45.2.2, z_45.2.1)) else gd (nz z_45.1) (if (z_22.1 - z_22.1 / z_45.1 * z_45.1) = 0 then gd (inb z_45.1 19) (gd (inb z_45.1 19) (nm (z_45.2.2 - (z_45.1.toInt64 * ((z_22.2.1 z_45.1.toNatClampNeg) + (z_22.2.2 z_45.1.toNatClampNeg)))) (fun (x_79 : Int64) => gd (nz z_45.1) (bd (if ((z_22.1 / z_45.1) - (z_22.1 / z_45.1) / (nI 2) * (nI 2)) = 0 then gd (inb z_45.1 19) (gd (inb z_45.1 19) (some ((z_22.2.1 z_45.1.toNatClampNeg) + (z_22.2.2 z_45.1.toNatClampNeg)))) else gd (inb z_45.1 19) (gd (inb z_45.1 19) (some ((z_22.2.1 z_45.1.toNatClampNeg) - (z_22.2.2 z_45.1.toNatClampNeg))))) (fun (j_91 : Int64) => nm (z_45.2.1 - (z_45.1.toInt64 * j_91)) (fun (x_129 : Int64) => some (.inl (z_45.1 + (nI 1), x_129, x_79)))))))) else some (.inl (z_45.1 + (nI 1), z_45.2.1, z_45.2.2)))
noncomputable def b_X9_laysPrimes_22 (p1 : Int32) (q_7 : Int32 × (Nat → Int64) × (Nat → Int64) × (Nat → Int64) × (Nat → Int64)) (q_17 : Int32 × (Nat → Int64) × (Nat → Int64) × (Nat → Int64) × (Nat → Int64)) : Int32 × (Nat → Int64) × (Nat → Int64) → Option ((Int32 × (Nat → Int64) × (Nat → Int64)) ⊕ (((Nat → Int64) × (Nat → Int64)))) := fun z_22 =>
  if p1 < z_22.1 then some (.inr (z_22.2.1, z_22.2.2)) else gd (inb z_22.1 19) (nm (q_7.2.2.2.2 z_22.1.toNatClampNeg) (fun (x_33 : Int64) => gd (inb z_22.1 19) (nm (q_17.2.2.2.2 z_22.1.toNatClampNeg) (fun (x_40 : Int64) => bd (wh (b_X9_laysPrimes_45 z_22) ((nI 1), x_40, x_33)) (fun (r_45 : Int64 × Int64) => gd (nzl z_22.1.toInt64) (gd (inb z_22.1 19) (gd (nzl z_22.1.toInt64) (gd (inb z_22.1 19) (some (.inl (z_22.1 + (nI 1), vp_updL z_22.2.1 z_22.1.toNatClampNeg (((r_45.1 + r_45.2) / (2 : Int64)) / z_22.1.toInt64), vp_updL z_22.2.2 z_22.1.toNatClampNeg (((r_45.1 - r_45.2) / (2 : Int64)) / z_22.1.toInt64))))))))))))
noncomputable def f_X9_laysPrimes (p1 : Int32) (t_saved : Int32) (t_letters : Int32) (t_stage : Int32) (t_size : Int32) (a_t_now : Nat → Int32) (a_t_matrix : Nat → Int64) (a_t_power : Nat → Int64) (a_t_product : Nat → Int64) (a_t_traces : Nat → Int64) (a_t_signed : Nat → Int64) (a_t_plus : Nat → Int64) (a_t_minus : Nat → Int64) : Option (Int32 × (Nat → Int64) × (Nat → Int64) × (Nat → Int64) × (Nat → Int64) × (Nat → Int64) × (Nat → Int64) × (Nat → Int64)) :=
  bd (f_X9_laysTraces (nI 0) p1 t_saved t_letters t_stage t_size a_t_now a_t_matrix a_t_power a_t_product 19 a_t_traces) (fun (q_7 : Int32 × (Nat → Int64) × (Nat → Int64) × (Nat → Int64) × (Nat → Int64)) => bd (f_X9_laysTraces (nI 1) p1 t_saved t_letters t_stage q_7.1 a_t_now q_7.2.1 q_7.2.2.1 q_7.2.2.2.1 19 a_t_signed) (fun (q_17 : Int32 × (Nat → Int64) × (Nat → Int64) × (Nat → Int64) × (Nat → Int64)) => bd (wh (b_X9_laysPrimes_22 p1 q_7 q_17) ((nI 1), a_t_plus, a_t_minus)) (fun (r_22 : (Nat → Int64) × (Nat → Int64)) => some (q_17.1, q_17.2.1, q_17.2.2.1, q_17.2.2.2.1, q_7.2.2.2.2, q_17.2.2.2.2, r_22.1, r_22.2))))
theorem yq_X9_laysPrimes : yq yX9_laysPrimes 1 := by unfold yq; decide +kernel
set_option maxHeartbeats 4000000 in
set_option maxRecDepth 100000 in
theorem c_X9_laysPrimes (g : GG) (l : Launch) (h_t : Nat) (h_t_now : Nat) (h_t_read : Nat) (h_t_past : Nat) (h_t_text : Nat) (h_t_part : Nat) (h_t_matrix : Nat) (h_t_power : Nat) (h_t_product : Nat) (h_t_poly : Nat) (h_t_old : Nat) (h_t_step : Nat) (h_t_column : Nat) (h_t_moved : Nat) (h_t_traces : Nat) (h_t_signed : Nat) (h_t_plus : Nat) (h_t_minus : Nat) (h_t_walk : Nat) (p1 : Int32) (t_saved : Int32) (t_letters : Int32) (t_stage : Int32) (t_size : Int32) (a_t_now : Nat → Int32) (a_t_matrix : Nat → Int64) (a_t_power : Nat → Int64) (a_t_product : Nat → Int64) (a_t_traces : Nat → Int64) (a_t_signed : Nat → Int64) (a_t_plus : Nat → Int64) (a_t_minus : Nat → Int64) {R : Int32 × (Nat → Int64) × (Nat → Int64) × (Nat → Int64) × (Nat → Int64) × (Nat → Int64) × (Nat → Int64) × (Nat → Int64)} (hM : f_X9_laysPrimes p1 t_saved t_letters t_stage t_size a_t_now a_t_matrix a_t_power a_t_product a_t_traces a_t_signed a_t_plus a_t_minus = some R) : CT g l yX9_laysPrimes cX9_laysPrimes 8 none 4 94 [.ref h_t, .int p1] [ob h_t 9 [.ref h_t_now, .ref h_t_read, .ref h_t_past, .int t_saved, .ref h_t_text, .int t_letters, .int t_stage, .ref h_t_part, .int t_size, .ref h_t_matrix, .ref h_t_power, .ref h_t_product, .ref h_t_poly, .ref h_t_old, .ref h_t_step, .ref h_t_column, .ref h_t_moved, .ref h_t_traces, .ref h_t_signed, .ref h_t_plus, .ref h_t_minus, .ref h_t_walk], aI g h_t_now 29 a_t_now, aJ g h_t_matrix 324 a_t_matrix, aJ g h_t_power 324 a_t_power, aJ g h_t_product 324 a_t_product, aJ g h_t_traces 19 a_t_traces, aJ g h_t_signed 19 a_t_signed, aJ g h_t_plus 19 a_t_plus, aJ g h_t_minus 19 a_t_minus] [ob h_t 9 [.ref h_t_now, .ref h_t_read, .ref h_t_past, .int t_saved, .ref h_t_text, .int t_letters, .int t_stage, .ref h_t_part, .int R.1, .ref h_t_matrix, .ref h_t_power, .ref h_t_product, .ref h_t_poly, .ref h_t_old, .ref h_t_step, .ref h_t_column, .ref h_t_moved, .ref h_t_traces, .ref h_t_signed, .ref h_t_plus, .ref h_t_minus, .ref h_t_walk], aI g h_t_now 29 a_t_now, aJ g h_t_matrix 324 R.2.1, aJ g h_t_power 324 R.2.2.1, aJ g h_t_product 324 R.2.2.2.1, aJ g h_t_traces 19 R.2.2.2.2.1, aJ g h_t_signed 19 R.2.2.2.2.2.1, aJ g h_t_plus 19 R.2.2.2.2.2.2.1, aJ g h_t_minus 19 R.2.2.2.2.2.2.2] none := by
  refine ct_v (by decide +kernel) (Nat.le_of_ble_eq_true rfl) ?_
  intro p e s m args below meth c Q A ls cx hP hD hA hl hfin
  obtain ⟨hx, hb, hml, hown, hts, hK⟩ := id cx
  have hl : lv_has ls 8 [(0, .ref h_t), (1, .int p1)] := hl
  have hS : va_S A s.heap s.heap [] := va_S.rf
  refine lv_aload_n hx hb dX9_laysPrimes_0 rfl (lv_at hl 0 rfl) ?_
  refine lv_iconst (v := (nI 0)) hx hb dX9_laysPrimes_1 (by decide) ?_
  refine lv_iload_n hx hb dX9_laysPrimes_2 rfl (lv_at hl 1 rfl) ?_
  refine lv_aload_n hx hb dX9_laysPrimes_3 rfl (lv_at hl 0 rfl) ?_
  refine w_get cx hP 0 9 17 rfl rfl (by decide) m_661 rfl rfl dX9_laysPrimes_4 ?_
  obtain ⟨q_7, hc_7, hM⟩ := bd_some hM
  refine w_callV cx hP hD hS hA (c_X9_laysTraces g l h_t h_t_now h_t_read h_t_past h_t_text h_t_part h_t_matrix h_t_power h_t_product h_t_poly h_t_old h_t_step h_t_column h_t_moved h_t_traces h_t_signed h_t_plus h_t_minus h_t_walk h_t_traces (nI 0) p1 t_saved t_letters t_stage t_size a_t_now a_t_matrix a_t_power a_t_product 19 a_t_traces hc_7) [0, 1, 2, 3, 4, 5] rfl (by decide) rfl [ob h_t 9 [.ref h_t_now, .ref h_t_read, .ref h_t_past, .int t_saved, .ref h_t_text, .int t_letters, .int t_stage, .ref h_t_part, .int q_7.1, .ref h_t_matrix, .ref h_t_power, .ref h_t_product, .ref h_t_poly, .ref h_t_old, .ref h_t_step, .ref h_t_column, .ref h_t_moved, .ref h_t_traces, .ref h_t_signed, .ref h_t_plus, .ref h_t_minus, .ref h_t_walk], aI g h_t_now 29 a_t_now, aJ g h_t_matrix 324 q_7.2.1, aJ g h_t_power 324 q_7.2.2.1, aJ g h_t_product 324 q_7.2.2.2.1, aJ g h_t_traces 19 q_7.2.2.2.2, aJ g h_t_signed 19 a_t_signed, aJ g h_t_plus 19 a_t_plus, aJ g h_t_minus 19 a_t_minus] rfl 0 9 rfl rfl yq_X9_laysTraces rfl m_833 m_835 m_28 m_51 m_836 ⟨Nat.le_of_ble_eq_true rfl, Nat.le_of_ble_eq_true rfl⟩ rfl rfl hl.1 (Nat.le_of_ble_eq_true rfl) dX9_laysPrimes_7 ⟨Nat.le_refl 0, Nat.le_refl 0⟩ rfl (fun H locs hP hD hS => ?_)
  refine lv_aload_n hx hb dX9_laysPrimes_10 rfl (lv_at hl 0 rfl) ?_
  refine lv_iconst (v := (nI 1)) hx hb dX9_laysPrimes_11 (by decide) ?_
  refine lv_iload_n hx hb dX9_laysPrimes_12 rfl (lv_at hl 1 rfl) ?_
  refine lv_aload_n hx hb dX9_laysPrimes_13 rfl (lv_at hl 0 rfl) ?_
  refine w_get cx hP 0 9 18 rfl rfl (by decide) m_662 rfl rfl dX9_laysPrimes_14 ?_
  obtain ⟨q_17, hc_17, hM⟩ := bd_some hM
  refine w_callV cx hP hD hS hA (c_X9_laysTraces g l h_t h_t_now h_t_read h_t_past h_t_text h_t_part h_t_matrix h_t_power h_t_product h_t_poly h_t_old h_t_step h_t_column h_t_moved h_t_traces h_t_signed h_t_plus h_t_minus h_t_walk h_t_signed (nI 1) p1 t_saved t_letters t_stage q_7.1 a_t_now q_7.2.1 q_7.2.2.1 q_7.2.2.2.1 19 a_t_signed hc_17) [0, 1, 2, 3, 4, 6] rfl (by decide) rfl [ob h_t 9 [.ref h_t_now, .ref h_t_read, .ref h_t_past, .int t_saved, .ref h_t_text, .int t_letters, .int t_stage, .ref h_t_part, .int q_17.1, .ref h_t_matrix, .ref h_t_power, .ref h_t_product, .ref h_t_poly, .ref h_t_old, .ref h_t_step, .ref h_t_column, .ref h_t_moved, .ref h_t_traces, .ref h_t_signed, .ref h_t_plus, .ref h_t_minus, .ref h_t_walk], aI g h_t_now 29 a_t_now, aJ g h_t_matrix 324 q_17.2.1, aJ g h_t_power 324 q_17.2.2.1, aJ g h_t_product 324 q_17.2.2.2.1, aJ g h_t_traces 19 q_7.2.2.2.2, aJ g h_t_signed 19 q_17.2.2.2.2, aJ g h_t_plus 19 a_t_plus, aJ g h_t_minus 19 a_t_minus] rfl 0 9 rfl rfl yq_X9_laysTraces rfl m_833 m_835 m_28 m_51 m_836 ⟨Nat.le_of_ble_eq_true rfl, Nat.le_of_ble_eq_true rfl⟩ rfl rfl hl.1 (Nat.le_of_ble_eq_true rfl) dX9_laysPrimes_17 ⟨Nat.le_refl 0, Nat.le_refl 0⟩ rfl (fun H locs hP hD hS => ?_)
  refine lv_iconst (v := (nI 1)) hx hb dX9_laysPrimes_20 (by decide) ?_
  refine lv_istore_n (lv' := [(2, .int (nI 1)), (0, .ref h_t), (1, .int p1)]) hx hb dX9_laysPrimes_21 rfl hl (by decide) rfl (fun ls hl => ?_)
  obtain ⟨r_22, hw, hM⟩ := bd_some hM
  obtain ⟨n, hn⟩ := wh_some hw
  clear hw
  have hE_22_0 : ∀ (H : Heap) (locs : List Loc) (ls : Array Slot), va_P (gD g) vwCl [ob h_t 9 [.ref h_t_now, .ref h_t_read, .ref h_t_past, .int t_saved, .ref h_t_text, .int t_letters, .int t_stage, .ref h_t_part, .int q_17.1, .ref h_t_matrix, .ref h_t_power, .ref h_t_product, .ref h_t_poly, .ref h_t_old, .ref h_t_step, .ref h_t_column, .ref h_t_moved, .ref h_t_traces, .ref h_t_signed, .ref h_t_plus, .ref h_t_minus, .ref h_t_walk], aI g h_t_now 29 a_t_now, aJ g h_t_matrix 324 q_17.2.1, aJ g h_t_power 324 q_17.2.2.1, aJ g h_t_product 324 q_17.2.2.2.1, aJ g h_t_traces 19 q_7.2.2.2.2, aJ g h_t_signed 19 q_17.2.2.2.2, aJ g h_t_plus 19 r_22.1, aJ g h_t_minus 19 r_22.2] H → va_D A [ob h_t 9 [.ref h_t_now, .ref h_t_read, .ref h_t_past, .int t_saved, .ref h_t_text, .int t_letters, .int t_stage, .ref h_t_part, .int q_17.1, .ref h_t_matrix, .ref h_t_power, .ref h_t_product, .ref h_t_poly, .ref h_t_old, .ref h_t_step, .ref h_t_column, .ref h_t_moved, .ref h_t_traces, .ref h_t_signed, .ref h_t_plus, .ref h_t_minus, .ref h_t_walk], aI g h_t_now 29 a_t_now, aJ g h_t_matrix 324 q_17.2.1, aJ g h_t_power 324 q_17.2.2.1, aJ g h_t_product 324 q_17.2.2.2.1, aJ g h_t_traces 19 q_7.2.2.2.2, aJ g h_t_signed 19 q_17.2.2.2.2, aJ g h_t_plus 19 r_22.1, aJ g h_t_minus 19 r_22.2] → va_S A s.heap H locs → lv_has ls 8 [] → W p l e (rmv 4 94) s m args below meth c H locs 0 0 Q (F0 m 177 ls []) := by
    intro H locs ls hP hD hS hl
    obtain rfl := Option.some.inj hM
    exact hfin 177 _ _ _ dX9_laysPrimes_177 hP hD hS
  clear hM
  have hL_22 : ∀ (n : Nat) (z_22 : Int32 × (Nat → Int64) × (Nat → Int64)), it (b_X9_laysPrimes_22 p1 q_7 q_17) n z_22 = some r_22 → ∀ (H : Heap) (locs : List Loc) (ls : Array Slot), va_P (gD g) vwCl [ob h_t 9 [.ref h_t_now, .ref h_t_read, .ref h_t_past, .int t_saved, .ref h_t_text, .int t_letters, .int t_stage, .ref h_t_part, .int q_17.1, .ref h_t_matrix, .ref h_t_power, .ref h_t_product, .ref h_t_poly, .ref h_t_old, .ref h_t_step, .ref h_t_column, .ref h_t_moved, .ref h_t_traces, .ref h_t_signed, .ref h_t_plus, .ref h_t_minus, .ref h_t_walk], aI g h_t_now 29 a_t_now, aJ g h_t_matrix 324 q_17.2.1, aJ g h_t_power 324 q_17.2.2.1, aJ g h_t_product 324 q_17.2.2.2.1, aJ g h_t_traces 19 q_7.2.2.2.2, aJ g h_t_signed 19 q_17.2.2.2.2, aJ g h_t_plus 19 z_22.2.1, aJ g h_t_minus 19 z_22.2.2] H → va_D A [ob h_t 9 [.ref h_t_now, .ref h_t_read, .ref h_t_past, .int t_saved, .ref h_t_text, .int t_letters, .int t_stage, .ref h_t_part, .int q_17.1, .ref h_t_matrix, .ref h_t_power, .ref h_t_product, .ref h_t_poly, .ref h_t_old, .ref h_t_step, .ref h_t_column, .ref h_t_moved, .ref h_t_traces, .ref h_t_signed, .ref h_t_plus, .ref h_t_minus, .ref h_t_walk], aI g h_t_now 29 a_t_now, aJ g h_t_matrix 324 q_17.2.1, aJ g h_t_power 324 q_17.2.2.1, aJ g h_t_product 324 q_17.2.2.2.1, aJ g h_t_traces 19 q_7.2.2.2.2, aJ g h_t_signed 19 q_17.2.2.2.2, aJ g h_t_plus 19 z_22.2.1, aJ g h_t_minus 19 z_22.2.2] → va_S A s.heap H locs → lv_has ls 8 [(2, .int z_22.1), (0, .ref h_t), (1, .int p1)] → W p l e (rmv 4 94) s m args below meth c H locs 0 0 Q (F0 m 22 ls []) := by
    intro n
    induction n with
    | zero => intro z_22 hn; exact (it_zero hn).elim
    | succ n ih =>
      intro z_22 hn H locs ls hP hD hS hl
      obtain ⟨x, hM, hX⟩ := it_succ hn
      clear hn
      refine lv_iload_n hx hb dX9_laysPrimes_22 rfl (lv_at hl 0 rfl) ?_
      refine lv_iload_n hx hb dX9_laysPrimes_23 rfl (lv_at hl 2 rfl) ?_
      refine lv_icmp_gt (tgt := 177) hx hb dX9_laysPrimes_24 (by decide) (fun c_24 => ?_) (fun c_24 => ?_)
      · have hM := if_t hM c_24
        obtain rfl := Option.some.inj hM
        obtain rfl : _ = r_22 := hX
        exact hE_22_0 _ _ _ hP hD hS (lv_sub hl [] rfl)
      · have hM := if_f hM c_24
        refine lv_aload_n hx hb dX9_laysPrimes_27 rfl (lv_at hl 1 rfl) ?_
        refine w_get cx hP 0 9 17 rfl rfl (by decide) m_661 rfl rfl dX9_laysPrimes_28 ?_
        refine lv_iload_n hx hb dX9_laysPrimes_31 rfl (lv_at hl 0 rfl) ?_
        obtain ⟨g_32, hM⟩ := gd_some hM
        refine w_lald cx hP 5 rfl g_32 dX9_laysPrimes_32 ?_
        refine lv_topl (fun x_33 ex_33 => ?_)
        have hM := nm_some hM x_33 ex_33
        refine lv_lstore_n (lv' := [(3, .long x_33), (2, .int z_22.1), (0, .ref h_t), (1, .int p1)]) hx hb dX9_laysPrimes_33 rfl hl (by decide) rfl (fun ls hl => ?_)
        refine lv_aload_n hx hb dX9_laysPrimes_34 rfl (lv_at hl 2 rfl) ?_
        refine w_get cx hP 0 9 18 rfl rfl (by decide) m_662 rfl rfl dX9_laysPrimes_35 ?_
        refine lv_iload_n hx hb dX9_laysPrimes_38 rfl (lv_at hl 1 rfl) ?_
        obtain ⟨g_39, hM⟩ := gd_some hM
        refine w_lald cx hP 6 rfl g_39 dX9_laysPrimes_39 ?_
        refine lv_topl (fun x_40 ex_40 => ?_)
        have hM := nm_some hM x_40 ex_40
        refine lv_lstore (lv' := [(5, .long x_40), (3, .long x_33), (2, .int z_22.1), (0, .ref h_t), (1, .int p1)]) hx hb dX9_laysPrimes_40 hl (by decide) rfl (fun ls hl => ?_)
        refine lv_iconst (v := (nI 1)) hx hb dX9_laysPrimes_42 (by decide) ?_
        refine lv_istore (lv' := [(7, .int (nI 1)), (5, .long x_40), (3, .long x_33), (2, .int z_22.1), (0, .ref h_t), (1, .int p1)]) hx hb dX9_laysPrimes_43 hl (by decide) rfl (fun ls hl => ?_)
        obtain ⟨r_45, hw, hM⟩ := bd_some hM
        obtain ⟨n, hn⟩ := wh_some hw
        clear hw
        have hE_45_0 : ∀ (H : Heap) (locs : List Loc) (ls : Array Slot), va_P (gD g) vwCl [ob h_t 9 [.ref h_t_now, .ref h_t_read, .ref h_t_past, .int t_saved, .ref h_t_text, .int t_letters, .int t_stage, .ref h_t_part, .int q_17.1, .ref h_t_matrix, .ref h_t_power, .ref h_t_product, .ref h_t_poly, .ref h_t_old, .ref h_t_step, .ref h_t_column, .ref h_t_moved, .ref h_t_traces, .ref h_t_signed, .ref h_t_plus, .ref h_t_minus, .ref h_t_walk], aI g h_t_now 29 a_t_now, aJ g h_t_matrix 324 q_17.2.1, aJ g h_t_power 324 q_17.2.2.1, aJ g h_t_product 324 q_17.2.2.2.1, aJ g h_t_traces 19 q_7.2.2.2.2, aJ g h_t_signed 19 q_17.2.2.2.2, aJ g h_t_plus 19 z_22.2.1, aJ g h_t_minus 19 z_22.2.2] H → va_D A [ob h_t 9 [.ref h_t_now, .ref h_t_read, .ref h_t_past, .int t_saved, .ref h_t_text, .int t_letters, .int t_stage, .ref h_t_part, .int q_17.1, .ref h_t_matrix, .ref h_t_power, .ref h_t_product, .ref h_t_poly, .ref h_t_old, .ref h_t_step, .ref h_t_column, .ref h_t_moved, .ref h_t_traces, .ref h_t_signed, .ref h_t_plus, .ref h_t_minus, .ref h_t_walk], aI g h_t_now 29 a_t_now, aJ g h_t_matrix 324 q_17.2.1, aJ g h_t_power 324 q_17.2.2.1, aJ g h_t_product 324 q_17.2.2.2.1, aJ g h_t_traces 19 q_7.2.2.2.2, aJ g h_t_signed 19 q_17.2.2.2.2, aJ g h_t_plus 19 z_22.2.1, aJ g h_t_minus 19 z_22.2.2] → va_S A s.heap H locs → lv_has ls 8 [(5, .long r_45.2), (3, .long r_45.1), (2, .int z_22.1), (0, .ref h_t), (1, .int p1)] → W p l e (rmv 4 94) s m args below meth c H locs 0 0 Q (F0 m 137 ls []) := by
          intro H locs ls hP hD hS hl
          refine lv_aload_n hx hb dX9_laysPrimes_137 rfl (lv_at hl 3 rfl) ?_
          refine w_get cx hP 0 9 19 rfl rfl (by decide) m_663 rfl rfl dX9_laysPrimes_138 ?_
          refine lv_iload_n hx hb dX9_laysPrimes_141 rfl (lv_at hl 2 rfl) ?_
          refine lv_lload_n hx hb dX9_laysPrimes_142 rfl (lv_at hl 1 rfl) ?_
          refine lv_lload hx hb dX9_laysPrimes_143 (lv_at hl 0 rfl) ?_
          refine lv_ladd hx hb dX9_laysPrimes_145 ?_
          refine lv_ldc2 hx hb hown (hts _ m_862) dX9_laysPrimes_146 ?_
          refine lv_ldiv hx hb dX9_laysPrimes_149 (by decide) ?_
          refine lv_iload_n hx hb dX9_laysPrimes_150 rfl (lv_at hl 2 rfl) ?_
          refine lv_i2l (v := z_22.1.toInt64) hx hb dX9_laysPrimes_151 rfl ?_
          obtain ⟨g_152, hM⟩ := gd_some hM
          refine lv_ldiv hx hb dX9_laysPrimes_152 (nzl_ne g_152) ?_
          obtain ⟨g_153, hM⟩ := gd_some hM
          refine w_last cx hP hD hS 7 rfl g_153 dX9_laysPrimes_153 [ob h_t 9 [.ref h_t_now, .ref h_t_read, .ref h_t_past, .int t_saved, .ref h_t_text, .int t_letters, .int t_stage, .ref h_t_part, .int q_17.1, .ref h_t_matrix, .ref h_t_power, .ref h_t_product, .ref h_t_poly, .ref h_t_old, .ref h_t_step, .ref h_t_column, .ref h_t_moved, .ref h_t_traces, .ref h_t_signed, .ref h_t_plus, .ref h_t_minus, .ref h_t_walk], aI g h_t_now 29 a_t_now, aJ g h_t_matrix 324 q_17.2.1, aJ g h_t_power 324 q_17.2.2.1, aJ g h_t_product 324 q_17.2.2.2.1, aJ g h_t_traces 19 q_7.2.2.2.2, aJ g h_t_signed 19 q_17.2.2.2.2, aJ g h_t_plus 19 (vp_updL z_22.2.1 z_22.1.toNatClampNeg (((r_45.1 + r_45.2) / (2 : Int64)) / z_22.1.toInt64)), aJ g h_t_minus 19 z_22.2.2] rfl (fun H locs hP hD hS => ?_)
          refine lv_aload_n hx hb dX9_laysPrimes_154 rfl (lv_at hl 3 rfl) ?_
          refine w_get cx hP 0 9 20 rfl rfl (by decide) m_664 rfl rfl dX9_laysPrimes_155 ?_
          refine lv_iload_n hx hb dX9_laysPrimes_158 rfl (lv_at hl 2 rfl) ?_
          refine lv_lload_n hx hb dX9_laysPrimes_159 rfl (lv_at hl 1 rfl) ?_
          refine lv_lload hx hb dX9_laysPrimes_160 (lv_at hl 0 rfl) ?_
          refine lv_lsub hx hb dX9_laysPrimes_162 ?_
          refine lv_ldc2 hx hb hown (hts _ m_862) dX9_laysPrimes_163 ?_
          refine lv_ldiv hx hb dX9_laysPrimes_166 (by decide) ?_
          refine lv_iload_n hx hb dX9_laysPrimes_167 rfl (lv_at hl 2 rfl) ?_
          refine lv_i2l (v := z_22.1.toInt64) hx hb dX9_laysPrimes_168 rfl ?_
          obtain ⟨g_169, hM⟩ := gd_some hM
          refine lv_ldiv hx hb dX9_laysPrimes_169 (nzl_ne g_169) ?_
          obtain ⟨g_170, hM⟩ := gd_some hM
          refine w_last cx hP hD hS 8 rfl g_170 dX9_laysPrimes_170 [ob h_t 9 [.ref h_t_now, .ref h_t_read, .ref h_t_past, .int t_saved, .ref h_t_text, .int t_letters, .int t_stage, .ref h_t_part, .int q_17.1, .ref h_t_matrix, .ref h_t_power, .ref h_t_product, .ref h_t_poly, .ref h_t_old, .ref h_t_step, .ref h_t_column, .ref h_t_moved, .ref h_t_traces, .ref h_t_signed, .ref h_t_plus, .ref h_t_minus, .ref h_t_walk], aI g h_t_now 29 a_t_now, aJ g h_t_matrix 324 q_17.2.1, aJ g h_t_power 324 q_17.2.2.1, aJ g h_t_product 324 q_17.2.2.2.1, aJ g h_t_traces 19 q_7.2.2.2.2, aJ g h_t_signed 19 q_17.2.2.2.2, aJ g h_t_plus 19 (vp_updL z_22.2.1 z_22.1.toNatClampNeg (((r_45.1 + r_45.2) / (2 : Int64)) / z_22.1.toInt64)), aJ g h_t_minus 19 (vp_updL z_22.2.2 z_22.1.toNatClampNeg (((r_45.1 - r_45.2) / (2 : Int64)) / z_22.1.toInt64))] rfl (fun H locs hP hD hS => ?_)
          refine lv_iinc (v := z_22.1 + (nI 1)) (lv' := [(2, .int (z_22.1 + (nI 1))), (5, .long r_45.2), (3, .long r_45.1), (0, .ref h_t), (1, .int p1)]) hx hb dX9_laysPrimes_171 hl (k := 2) rfl (congrArg (fun q => z_22.1 + q) (show Int32.ofInt (1) = (nI 1) by decide)) (by decide) rfl (fun ls hl => ?_)
          refine lv_goto (tgt := 22) hx hb dX9_laysPrimes_174 (by decide) ?_
          obtain rfl := Option.some.inj hM
          exact ih _ hX _ _ _ hP hD hS (lv_sub hl [0, 3, 4] rfl)
        clear hM
        have hL_45 : ∀ (n : Nat) (z_45 : Int32 × Int64 × Int64), it (b_X9_laysPrimes_45 z_22) n z_45 = some r_45 → ∀ (H : Heap) (locs : List Loc) (ls : Array Slot), va_P (gD g) vwCl [ob h_t 9 [.ref h_t_now, .ref h_t_read, .ref h_t_past, .int t_saved, .ref h_t_text, .int t_letters, .int t_stage, .ref h_t_part, .int q_17.1, .ref h_t_matrix, .ref h_t_power, .ref h_t_product, .ref h_t_poly, .ref h_t_old, .ref h_t_step, .ref h_t_column, .ref h_t_moved, .ref h_t_traces, .ref h_t_signed, .ref h_t_plus, .ref h_t_minus, .ref h_t_walk], aI g h_t_now 29 a_t_now, aJ g h_t_matrix 324 q_17.2.1, aJ g h_t_power 324 q_17.2.2.1, aJ g h_t_product 324 q_17.2.2.2.1, aJ g h_t_traces 19 q_7.2.2.2.2, aJ g h_t_signed 19 q_17.2.2.2.2, aJ g h_t_plus 19 z_22.2.1, aJ g h_t_minus 19 z_22.2.2] H → va_D A [ob h_t 9 [.ref h_t_now, .ref h_t_read, .ref h_t_past, .int t_saved, .ref h_t_text, .int t_letters, .int t_stage, .ref h_t_part, .int q_17.1, .ref h_t_matrix, .ref h_t_power, .ref h_t_product, .ref h_t_poly, .ref h_t_old, .ref h_t_step, .ref h_t_column, .ref h_t_moved, .ref h_t_traces, .ref h_t_signed, .ref h_t_plus, .ref h_t_minus, .ref h_t_walk], aI g h_t_now 29 a_t_now, aJ g h_t_matrix 324 q_17.2.1, aJ g h_t_power 324 q_17.2.2.1, aJ g h_t_product 324 q_17.2.2.2.1, aJ g h_t_traces 19 q_7.2.2.2.2, aJ g h_t_signed 19 q_17.2.2.2.2, aJ g h_t_plus 19 z_22.2.1, aJ g h_t_minus 19 z_22.2.2] → va_S A s.heap H locs → lv_has ls 8 [(7, .int z_45.1), (5, .long z_45.2.1), (3, .long z_45.2.2), (2, .int z_22.1), (0, .ref h_t), (1, .int p1)] → W p l e (rmv 4 94) s m args below meth c H locs 0 0 Q (F0 m 45 ls []) := by
          intro n
          induction n with
          | zero => intro z_45 hn; exact (it_zero hn).elim
          | succ n ih =>
            intro z_45 hn H locs ls hP hD hS hl
            obtain ⟨x, hM, hX⟩ := it_succ hn
            clear hn
            refine lv_iload hx hb dX9_laysPrimes_45 (lv_at hl 0 rfl) ?_
            refine lv_iload_n hx hb dX9_laysPrimes_47 rfl (lv_at hl 3 rfl) ?_
            refine lv_icmp_ge (tgt := 137) hx hb dX9_laysPrimes_48 (by decide) (fun c_48 => ?_) (fun c_48 => ?_)
            · have hM := if_t hM c_48
              obtain rfl := Option.some.inj hM
              obtain rfl : _ = r_45 := hX
              exact hE_45_0 _ _ _ hP hD hS (lv_sub hl [1, 2, 3, 4, 5] rfl)
            · have hM := if_f hM c_48
              refine lv_iload_n hx hb dX9_laysPrimes_51 rfl (lv_at hl 3 rfl) ?_
              refine lv_iload hx hb dX9_laysPrimes_52 (lv_at hl 0 rfl) ?_
              obtain ⟨g_54, hM⟩ := gd_some hM
              refine lv_irem hx hb dX9_laysPrimes_54 (nz_ne g_54) ?_
              refine lv_if_ne (tgt := 131) hx hb dX9_laysPrimes_55 (by decide) (fun c_55 => ?_) (fun c_55 => ?_)
              · have hM := if_f hM c_55
                refine lv_iinc (v := z_45.1 + (nI 1)) (lv' := [(7, .int (z_45.1 + (nI 1))), (5, .long z_45.2.1), (3, .long z_45.2.2), (2, .int z_22.1), (0, .ref h_t), (1, .int p1)]) hx hb dX9_laysPrimes_131 hl (k := 0) rfl (congrArg (fun q => z_45.1 + q) (show Int32.ofInt (1) = (nI 1) by decide)) (by decide) rfl (fun ls hl => ?_)
                refine lv_goto (tgt := 45) hx hb dX9_laysPrimes_134 (by decide) ?_
                obtain rfl := Option.some.inj hM
                exact ih _ hX _ _ _ hP hD hS (lv_sub hl [0, 1, 2, 3, 4, 5] rfl)
              · have hM := if_t hM c_55
                refine lv_lload_n hx hb dX9_laysPrimes_58 rfl (lv_at hl 2 rfl) ?_
                refine lv_iload hx hb dX9_laysPrimes_59 (lv_at hl 0 rfl) ?_
                refine lv_i2l (v := z_45.1.toInt64) hx hb dX9_laysPrimes_61 rfl ?_
                refine lv_aload_n hx hb dX9_laysPrimes_62 rfl (lv_at hl 4 rfl) ?_
                refine w_get cx hP 0 9 19 rfl rfl (by decide) m_663 rfl rfl dX9_laysPrimes_63 ?_
                refine lv_iload hx hb dX9_laysPrimes_66 (lv_at hl 0 rfl) ?_
                obtain ⟨g_68, hM⟩ := gd_some hM
                refine w_lald cx hP 7 rfl g_68 dX9_laysPrimes_68 ?_
                refine lv_aload_n hx hb dX9_laysPrimes_69 rfl (lv_at hl 4 rfl) ?_
                refine w_get cx hP 0 9 20 rfl rfl (by decide) m_664 rfl rfl dX9_laysPrimes_70 ?_
                refine lv_iload hx hb dX9_laysPrimes_73 (lv_at hl 0 rfl) ?_
                obtain ⟨g_75, hM⟩ := gd_some hM
                refine w_lald cx hP 8 rfl g_75 dX9_laysPrimes_75 ?_
                refine lv_ladd hx hb dX9_laysPrimes_76 ?_
                refine lv_lmul hx hb dX9_laysPrimes_77 ?_
                refine lv_lsub hx hb dX9_laysPrimes_78 ?_
                refine lv_topl (fun x_79 ex_79 => ?_)
                have hM := nm_some hM x_79 ex_79
                refine lv_lstore_n (lv' := [(3, .long x_79), (7, .int z_45.1), (5, .long z_45.2.1), (2, .int z_22.1), (0, .ref h_t), (1, .int p1)]) hx hb dX9_laysPrimes_79 rfl hl (by decide) rfl (fun ls hl => ?_)
                refine lv_lload hx hb dX9_laysPrimes_80 (lv_at hl 2 rfl) ?_
                refine lv_iload hx hb dX9_laysPrimes_82 (lv_at hl 1 rfl) ?_
                refine lv_i2l (v := z_45.1.toInt64) hx hb dX9_laysPrimes_84 rfl ?_
                refine lv_iload_n hx hb dX9_laysPrimes_85 rfl (lv_at hl 3 rfl) ?_
                refine lv_iload hx hb dX9_laysPrimes_86 (lv_at hl 1 rfl) ?_
                obtain ⟨g_88, hM⟩ := gd_some hM
                refine lv_idiv hx hb dX9_laysPrimes_88 (nz_ne g_88) ?_
                refine lv_iconst (v := (nI 2)) hx hb dX9_laysPrimes_89 (by decide) ?_
                refine lv_irem hx hb dX9_laysPrimes_90 (by decide) ?_
                obtain ⟨j_91, hB, hM⟩ := bd_some hM
                have hJ_91 : ∀ (H : Heap) (locs : List Loc) (ls : Array Slot), va_P (gD g) vwCl [ob h_t 9 [.ref h_t_now, .ref h_t_read, .ref h_t_past, .int t_saved, .ref h_t_text, .int t_letters, .int t_stage, .ref h_t_part, .int q_17.1, .ref h_t_matrix, .ref h_t_power, .ref h_t_product, .ref h_t_poly, .ref h_t_old, .ref h_t_step, .ref h_t_column, .ref h_t_moved, .ref h_t_traces, .ref h_t_signed, .ref h_t_plus, .ref h_t_minus, .ref h_t_walk], aI g h_t_now 29 a_t_now, aJ g h_t_matrix 324 q_17.2.1, aJ g h_t_power 324 q_17.2.2.1, aJ g h_t_product 324 q_17.2.2.2.1, aJ g h_t_traces 19 q_7.2.2.2.2, aJ g h_t_signed 19 q_17.2.2.2.2, aJ g h_t_plus 19 z_22.2.1, aJ g h_t_minus 19 z_22.2.2] H → va_D A [ob h_t 9 [.ref h_t_now, .ref h_t_read, .ref h_t_past, .int t_saved, .ref h_t_text, .int t_letters, .int t_stage, .ref h_t_part, .int q_17.1, .ref h_t_matrix, .ref h_t_power, .ref h_t_product, .ref h_t_poly, .ref h_t_old, .ref h_t_step, .ref h_t_column, .ref h_t_moved, .ref h_t_traces, .ref h_t_signed, .ref h_t_plus, .ref h_t_minus, .ref h_t_walk], aI g h_t_now 29 a_t_now, aJ g h_t_matrix 324 q_17.2.1, aJ g h_t_power 324 q_17.2.2.1, aJ g h_t_product 324 q_17.2.2.2.1, aJ g h_t_traces 19 q_7.2.2.2.2, aJ g h_t_signed 19 q_17.2.2.2.2, aJ g h_t_plus 19 z_22.2.1, aJ g h_t_minus 19 z_22.2.2] → va_S A s.heap H locs → lv_has ls 8 [(3, .long x_79), (7, .int z_45.1), (2, .int z_22.1), (0, .ref h_t), (1, .int p1)] → W p l e (rmv 4 94) s m args below meth c H locs 0 0 Q (F0 m 127 ls [.long j_91, .long z_45.1.toInt64, .long z_45.2.1]) := by
                  intro H locs ls hP hD hS hl
                  refine lv_lmul hx hb dX9_laysPrimes_127 ?_
                  refine lv_lsub hx hb dX9_laysPrimes_128 ?_
                  refine lv_topl (fun x_129 ex_129 => ?_)
                  have hM := nm_some hM x_129 ex_129
                  refine lv_lstore (lv' := [(5, .long x_129), (3, .long x_79), (7, .int z_45.1), (2, .int z_22.1), (0, .ref h_t), (1, .int p1)]) hx hb dX9_laysPrimes_129 hl (by decide) rfl (fun ls hl => ?_)
                  refine lv_iinc (v := z_45.1 + (nI 1)) (lv' := [(7, .int (z_45.1 + (nI 1))), (5, .long x_129), (3, .long x_79), (2, .int z_22.1), (0, .ref h_t), (1, .int p1)]) hx hb dX9_laysPrimes_131 hl (k := 2) rfl (congrArg (fun q => z_45.1 + q) (show Int32.ofInt (1) = (nI 1) by decide)) (by decide) rfl (fun ls hl => ?_)
                  refine lv_goto (tgt := 45) hx hb dX9_laysPrimes_134 (by decide) ?_
                  obtain rfl := Option.some.inj hM
                  exact ih _ hX _ _ _ hP hD hS (lv_sub hl [0, 1, 2, 3, 4, 5] rfl)
                clear hM
                have hM := hB
                clear hB
                refine lv_if_ne (tgt := 112) hx hb dX9_laysPrimes_91 (by decide) (fun c_91 => ?_) (fun c_91 => ?_)
                · have hM := if_f hM c_91
                  refine lv_aload_n hx hb dX9_laysPrimes_112 rfl (lv_at hl 4 rfl) ?_
                  refine w_get cx hP 0 9 19 rfl rfl (by decide) m_663 rfl rfl dX9_laysPrimes_113 ?_
                  refine lv_iload hx hb dX9_laysPrimes_116 (lv_at hl 1 rfl) ?_
                  obtain ⟨g_118, hM⟩ := gd_some hM
                  refine w_lald cx hP 7 rfl g_118 dX9_laysPrimes_118 ?_
                  refine lv_aload_n hx hb dX9_laysPrimes_119 rfl (lv_at hl 4 rfl) ?_
                  refine w_get cx hP 0 9 20 rfl rfl (by decide) m_664 rfl rfl dX9_laysPrimes_120 ?_
                  refine lv_iload hx hb dX9_laysPrimes_123 (lv_at hl 1 rfl) ?_
                  obtain ⟨g_125, hM⟩ := gd_some hM
                  refine w_lald cx hP 8 rfl g_125 dX9_laysPrimes_125 ?_
                  refine lv_lsub hx hb dX9_laysPrimes_126 ?_
                  obtain rfl := Option.some.inj hM
                  exact hJ_91 _ _ _ hP hD hS (lv_sub hl [0, 1, 3, 4, 5] rfl)
                · have hM := if_t hM c_91
                  refine lv_aload_n hx hb dX9_laysPrimes_94 rfl (lv_at hl 4 rfl) ?_
                  refine w_get cx hP 0 9 19 rfl rfl (by decide) m_663 rfl rfl dX9_laysPrimes_95 ?_
                  refine lv_iload hx hb dX9_laysPrimes_98 (lv_at hl 1 rfl) ?_
                  obtain ⟨g_100, hM⟩ := gd_some hM
                  refine w_lald cx hP 7 rfl g_100 dX9_laysPrimes_100 ?_
                  refine lv_aload_n hx hb dX9_laysPrimes_101 rfl (lv_at hl 4 rfl) ?_
                  refine w_get cx hP 0 9 20 rfl rfl (by decide) m_664 rfl rfl dX9_laysPrimes_102 ?_
                  refine lv_iload hx hb dX9_laysPrimes_105 (lv_at hl 1 rfl) ?_
                  obtain ⟨g_107, hM⟩ := gd_some hM
                  refine w_lald cx hP 8 rfl g_107 dX9_laysPrimes_107 ?_
                  refine lv_ladd hx hb dX9_laysPrimes_108 ?_
                  refine lv_goto (tgt := 127) hx hb dX9_laysPrimes_109 (by decide) ?_
                  obtain rfl := Option.some.inj hM
                  exact hJ_91 _ _ _ hP hD hS (lv_sub hl [0, 1, 3, 4, 5] rfl)
        exact hL_45 n _ hn _ _ _ hP hD hS (lv_sub hl [0, 1, 2, 3, 4, 5] rfl)
  exact hL_22 n _ hn _ _ _ hP hD hS (lv_sub hl [0, 1, 2] rfl)
noncomputable def f_X9_primes (p1 : Int32) (t_saved : Int32) (t_letters : Int32) (t_stage : Int32) (t_size : Int32) (a_t_now : Nat → Int32) (a_t_matrix : Nat → Int64) (a_t_power : Nat → Int64) (a_t_product : Nat → Int64) (a_t_traces : Nat → Int64) (a_t_signed : Nat → Int64) (a_t_plus : Nat → Int64) (a_t_minus : Nat → Int64) : Option (Int64 × Int32 × (Nat → Int64) × (Nat → Int64) × (Nat → Int64) × (Nat → Int64) × (Nat → Int64) × (Nat → Int64) × (Nat → Int64)) :=
  bd (f_X9_isLength p1) (fun (q_1 : Int32) => if q_1 = 0 then some ((-9223372036854775808 : Int64), t_size, a_t_matrix, a_t_power, a_t_product, a_t_traces, a_t_signed, a_t_plus, a_t_minus) else bd (f_X9_laysPrimes p1 t_saved t_letters t_stage t_size a_t_now a_t_matrix a_t_power a_t_product a_t_traces a_t_signed a_t_plus a_t_minus) (fun (q_13 : Int32 × (Nat → Int64) × (Nat → Int64) × (Nat → Int64) × (Nat → Int64) × (Nat → Int64) × (Nat → Int64) × (Nat → Int64)) => gd (inb p1 19) (gd (inb p1 19) (some ((q_13.2.2.2.2.2.2.1 p1.toNatClampNeg) + (q_13.2.2.2.2.2.2.2 p1.toNatClampNeg), q_13.1, q_13.2.1, q_13.2.2.1, q_13.2.2.2.1, q_13.2.2.2.2.1, q_13.2.2.2.2.2.1, q_13.2.2.2.2.2.2.1, q_13.2.2.2.2.2.2.2)))))
theorem yq_X9_primes : yq yX9_primes 1 := by unfold yq; decide +kernel
set_option maxHeartbeats 4000000 in
set_option maxRecDepth 100000 in
theorem c_X9_primes (g : GG) (l : Launch) (h_t : Nat) (h_t_now : Nat) (h_t_read : Nat) (h_t_past : Nat) (h_t_text : Nat) (h_t_part : Nat) (h_t_matrix : Nat) (h_t_power : Nat) (h_t_product : Nat) (h_t_poly : Nat) (h_t_old : Nat) (h_t_step : Nat) (h_t_column : Nat) (h_t_moved : Nat) (h_t_traces : Nat) (h_t_signed : Nat) (h_t_plus : Nat) (h_t_minus : Nat) (h_t_walk : Nat) (p1 : Int32) (t_saved : Int32) (t_letters : Int32) (t_stage : Int32) (t_size : Int32) (a_t_now : Nat → Int32) (a_t_matrix : Nat → Int64) (a_t_power : Nat → Int64) (a_t_product : Nat → Int64) (a_t_traces : Nat → Int64) (a_t_signed : Nat → Int64) (a_t_plus : Nat → Int64) (a_t_minus : Nat → Int64) {R : Int64 × Int32 × (Nat → Int64) × (Nat → Int64) × (Nat → Int64) × (Nat → Int64) × (Nat → Int64) × (Nat → Int64) × (Nat → Int64)} (hM : f_X9_primes p1 t_saved t_letters t_stage t_size a_t_now a_t_matrix a_t_power a_t_product a_t_traces a_t_signed a_t_plus a_t_minus = some R) : CT g l yX9_primes cX9_primes 2 (some .long) 5 121 [.ref h_t, .int p1] [ob h_t 9 [.ref h_t_now, .ref h_t_read, .ref h_t_past, .int t_saved, .ref h_t_text, .int t_letters, .int t_stage, .ref h_t_part, .int t_size, .ref h_t_matrix, .ref h_t_power, .ref h_t_product, .ref h_t_poly, .ref h_t_old, .ref h_t_step, .ref h_t_column, .ref h_t_moved, .ref h_t_traces, .ref h_t_signed, .ref h_t_plus, .ref h_t_minus, .ref h_t_walk], aI g h_t_now 29 a_t_now, aJ g h_t_matrix 324 a_t_matrix, aJ g h_t_power 324 a_t_power, aJ g h_t_product 324 a_t_product, aJ g h_t_traces 19 a_t_traces, aJ g h_t_signed 19 a_t_signed, aJ g h_t_plus 19 a_t_plus, aJ g h_t_minus 19 a_t_minus] [ob h_t 9 [.ref h_t_now, .ref h_t_read, .ref h_t_past, .int t_saved, .ref h_t_text, .int t_letters, .int t_stage, .ref h_t_part, .int R.2.1, .ref h_t_matrix, .ref h_t_power, .ref h_t_product, .ref h_t_poly, .ref h_t_old, .ref h_t_step, .ref h_t_column, .ref h_t_moved, .ref h_t_traces, .ref h_t_signed, .ref h_t_plus, .ref h_t_minus, .ref h_t_walk], aI g h_t_now 29 a_t_now, aJ g h_t_matrix 324 R.2.2.1, aJ g h_t_power 324 R.2.2.2.1, aJ g h_t_product 324 R.2.2.2.2.1, aJ g h_t_traces 19 R.2.2.2.2.2.1, aJ g h_t_signed 19 R.2.2.2.2.2.2.1, aJ g h_t_plus 19 R.2.2.2.2.2.2.2.1, aJ g h_t_minus 19 R.2.2.2.2.2.2.2.2] (some (.long R.1)) := by
  refine ct_l (by decide +kernel) (Nat.le_of_ble_eq_true rfl) ?_
  intro p e s m args below meth c Q A ls cx hP hD hA hl hfin
  obtain ⟨hx, hb, hml, hown, hts, hK⟩ := id cx
  have hl : lv_has ls 2 [(0, .ref h_t), (1, .int p1)] := hl
  have hS : va_S A s.heap s.heap [] := va_S.rf
  refine lv_iload_n hx hb dX9_primes_0 rfl (lv_at hl 1 rfl) ?_
  obtain ⟨q_1, hc_1, hM⟩ := bd_some hM
  refine w_callS cx hP hD hS hA (c_X9_isLength g l p1 hc_1) [] rfl (by decide) rfl [ob h_t 9 [.ref h_t_now, .ref h_t_read, .ref h_t_past, .int t_saved, .ref h_t_text, .int t_letters, .int t_stage, .ref h_t_part, .int t_size, .ref h_t_matrix, .ref h_t_power, .ref h_t_product, .ref h_t_poly, .ref h_t_old, .ref h_t_step, .ref h_t_column, .ref h_t_moved, .ref h_t_traces, .ref h_t_signed, .ref h_t_plus, .ref h_t_minus, .ref h_t_walk], aI g h_t_now 29 a_t_now, aJ g h_t_matrix 324 a_t_matrix, aJ g h_t_power 324 a_t_power, aJ g h_t_product 324 a_t_product, aJ g h_t_traces 19 a_t_traces, aJ g h_t_signed 19 a_t_signed, aJ g h_t_plus 19 a_t_plus, aJ g h_t_minus 19 a_t_minus] rfl yq_X9_isLength m_826 m_827 m_51 m_828 ⟨Nat.le_of_ble_eq_true rfl, Nat.le_of_ble_eq_true rfl⟩ rfl rfl hl.1 (Nat.le_of_ble_eq_true rfl) dX9_primes_1 ⟨Nat.le_refl 0, Nat.le_refl 0⟩ rfl (fun H locs hP hD hS => ?_)
  refine lv_if_ne (tgt := 11) hx hb dX9_primes_4 (by decide) (fun c_4 => ?_) (fun c_4 => ?_)
  · have hM := if_f hM c_4
    refine lv_aload_n hx hb dX9_primes_11 rfl (lv_at hl 0 rfl) ?_
    refine lv_iload_n hx hb dX9_primes_12 rfl (lv_at hl 1 rfl) ?_
    obtain ⟨q_13, hc_13, hM⟩ := bd_some hM
    refine w_callV cx hP hD hS hA (c_X9_laysPrimes g l h_t h_t_now h_t_read h_t_past h_t_text h_t_part h_t_matrix h_t_power h_t_product h_t_poly h_t_old h_t_step h_t_column h_t_moved h_t_traces h_t_signed h_t_plus h_t_minus h_t_walk p1 t_saved t_letters t_stage t_size a_t_now a_t_matrix a_t_power a_t_product a_t_traces a_t_signed a_t_plus a_t_minus hc_13) [0, 1, 2, 3, 4, 5, 6, 7, 8] rfl (by decide) rfl [ob h_t 9 [.ref h_t_now, .ref h_t_read, .ref h_t_past, .int t_saved, .ref h_t_text, .int t_letters, .int t_stage, .ref h_t_part, .int q_13.1, .ref h_t_matrix, .ref h_t_power, .ref h_t_product, .ref h_t_poly, .ref h_t_old, .ref h_t_step, .ref h_t_column, .ref h_t_moved, .ref h_t_traces, .ref h_t_signed, .ref h_t_plus, .ref h_t_minus, .ref h_t_walk], aI g h_t_now 29 a_t_now, aJ g h_t_matrix 324 q_13.2.1, aJ g h_t_power 324 q_13.2.2.1, aJ g h_t_product 324 q_13.2.2.2.1, aJ g h_t_traces 19 q_13.2.2.2.2.1, aJ g h_t_signed 19 q_13.2.2.2.2.2.1, aJ g h_t_plus 19 q_13.2.2.2.2.2.2.1, aJ g h_t_minus 19 q_13.2.2.2.2.2.2.2] rfl 0 9 rfl rfl yq_X9_laysPrimes rfl m_858 m_860 m_31 m_51 m_861 ⟨Nat.le_of_ble_eq_true rfl, Nat.le_of_ble_eq_true rfl⟩ rfl rfl hl.1 (Nat.le_of_ble_eq_true rfl) dX9_primes_13 ⟨Nat.le_refl 0, Nat.le_refl 0⟩ rfl (fun H locs hP hD hS => ?_)
    refine lv_aload_n hx hb dX9_primes_16 rfl (lv_at hl 0 rfl) ?_
    refine w_get cx hP 0 9 19 rfl rfl (by decide) m_663 rfl rfl dX9_primes_17 ?_
    refine lv_iload_n hx hb dX9_primes_20 rfl (lv_at hl 1 rfl) ?_
    obtain ⟨g_21, hM⟩ := gd_some hM
    refine w_lald cx hP 7 rfl g_21 dX9_primes_21 ?_
    refine lv_aload_n hx hb dX9_primes_22 rfl (lv_at hl 0 rfl) ?_
    refine w_get cx hP 0 9 20 rfl rfl (by decide) m_664 rfl rfl dX9_primes_23 ?_
    refine lv_iload_n hx hb dX9_primes_26 rfl (lv_at hl 1 rfl) ?_
    obtain ⟨g_27, hM⟩ := gd_some hM
    refine w_lald cx hP 8 rfl g_27 dX9_primes_27 ?_
    refine lv_ladd hx hb dX9_primes_28 ?_
    obtain rfl := Option.some.inj hM
    exact hfin 29 _ _ _ dX9_primes_29 hP hD hS
  · have hM := if_t hM c_4
    refine lv_ldc2 hx hb hown (hts _ m_845) dX9_primes_7 ?_
    obtain rfl := Option.some.inj hM
    exact hfin 10 _ _ _ dX9_primes_10 hP hD hS
noncomputable def f_X9_positivePrimes (p1 : Int32) (t_saved : Int32) (t_letters : Int32) (t_stage : Int32) (t_size : Int32) (a_t_now : Nat → Int32) (a_t_matrix : Nat → Int64) (a_t_power : Nat → Int64) (a_t_product : Nat → Int64) (a_t_traces : Nat → Int64) (a_t_signed : Nat → Int64) (a_t_plus : Nat → Int64) (a_t_minus : Nat → Int64) : Option (Int64 × Int32 × (Nat → Int64) × (Nat → Int64) × (Nat → Int64) × (Nat → Int64) × (Nat → Int64) × (Nat → Int64) × (Nat → Int64)) :=
  bd (f_X9_isLength p1) (fun (q_1 : Int32) => if q_1 = 0 then some ((-9223372036854775808 : Int64), t_size, a_t_matrix, a_t_power, a_t_product, a_t_traces, a_t_signed, a_t_plus, a_t_minus) else bd (f_X9_laysPrimes p1 t_saved t_letters t_stage t_size a_t_now a_t_matrix a_t_power a_t_product a_t_traces a_t_signed a_t_plus a_t_minus) (fun (q_13 : Int32 × (Nat → Int64) × (Nat → Int64) × (Nat → Int64) × (Nat → Int64) × (Nat → Int64) × (Nat → Int64) × (Nat → Int64)) => gd (inb p1 19) (some (q_13.2.2.2.2.2.2.1 p1.toNatClampNeg, q_13.1, q_13.2.1, q_13.2.2.1, q_13.2.2.2.1, q_13.2.2.2.2.1, q_13.2.2.2.2.2.1, q_13.2.2.2.2.2.2.1, q_13.2.2.2.2.2.2.2))))
theorem yq_X9_positivePrimes : yq yX9_positivePrimes 1 := by unfold yq; decide +kernel
set_option maxHeartbeats 4000000 in
set_option maxRecDepth 100000 in
theorem c_X9_positivePrimes (g : GG) (l : Launch) (h_t : Nat) (h_t_now : Nat) (h_t_read : Nat) (h_t_past : Nat) (h_t_text : Nat) (h_t_part : Nat) (h_t_matrix : Nat) (h_t_power : Nat) (h_t_product : Nat) (h_t_poly : Nat) (h_t_old : Nat) (h_t_step : Nat) (h_t_column : Nat) (h_t_moved : Nat) (h_t_traces : Nat) (h_t_signed : Nat) (h_t_plus : Nat) (h_t_minus : Nat) (h_t_walk : Nat) (p1 : Int32) (t_saved : Int32) (t_letters : Int32) (t_stage : Int32) (t_size : Int32) (a_t_now : Nat → Int32) (a_t_matrix : Nat → Int64) (a_t_power : Nat → Int64) (a_t_product : Nat → Int64) (a_t_traces : Nat → Int64) (a_t_signed : Nat → Int64) (a_t_plus : Nat → Int64) (a_t_minus : Nat → Int64) {R : Int64 × Int32 × (Nat → Int64) × (Nat → Int64) × (Nat → Int64) × (Nat → Int64) × (Nat → Int64) × (Nat → Int64) × (Nat → Int64)} (hM : f_X9_positivePrimes p1 t_saved t_letters t_stage t_size a_t_now a_t_matrix a_t_power a_t_product a_t_traces a_t_signed a_t_plus a_t_minus = some R) : CT g l yX9_positivePrimes cX9_positivePrimes 2 (some .long) 5 121 [.ref h_t, .int p1] [ob h_t 9 [.ref h_t_now, .ref h_t_read, .ref h_t_past, .int t_saved, .ref h_t_text, .int t_letters, .int t_stage, .ref h_t_part, .int t_size, .ref h_t_matrix, .ref h_t_power, .ref h_t_product, .ref h_t_poly, .ref h_t_old, .ref h_t_step, .ref h_t_column, .ref h_t_moved, .ref h_t_traces, .ref h_t_signed, .ref h_t_plus, .ref h_t_minus, .ref h_t_walk], aI g h_t_now 29 a_t_now, aJ g h_t_matrix 324 a_t_matrix, aJ g h_t_power 324 a_t_power, aJ g h_t_product 324 a_t_product, aJ g h_t_traces 19 a_t_traces, aJ g h_t_signed 19 a_t_signed, aJ g h_t_plus 19 a_t_plus, aJ g h_t_minus 19 a_t_minus] [ob h_t 9 [.ref h_t_now, .ref h_t_read, .ref h_t_past, .int t_saved, .ref h_t_text, .int t_letters, .int t_stage, .ref h_t_part, .int R.2.1, .ref h_t_matrix, .ref h_t_power, .ref h_t_product, .ref h_t_poly, .ref h_t_old, .ref h_t_step, .ref h_t_column, .ref h_t_moved, .ref h_t_traces, .ref h_t_signed, .ref h_t_plus, .ref h_t_minus, .ref h_t_walk], aI g h_t_now 29 a_t_now, aJ g h_t_matrix 324 R.2.2.1, aJ g h_t_power 324 R.2.2.2.1, aJ g h_t_product 324 R.2.2.2.2.1, aJ g h_t_traces 19 R.2.2.2.2.2.1, aJ g h_t_signed 19 R.2.2.2.2.2.2.1, aJ g h_t_plus 19 R.2.2.2.2.2.2.2.1, aJ g h_t_minus 19 R.2.2.2.2.2.2.2.2] (some (.long R.1)) := by
  refine ct_l (by decide +kernel) (Nat.le_of_ble_eq_true rfl) ?_
  intro p e s m args below meth c Q A ls cx hP hD hA hl hfin
  obtain ⟨hx, hb, hml, hown, hts, hK⟩ := id cx
  have hl : lv_has ls 2 [(0, .ref h_t), (1, .int p1)] := hl
  have hS : va_S A s.heap s.heap [] := va_S.rf
  refine lv_iload_n hx hb dX9_positivePrimes_0 rfl (lv_at hl 1 rfl) ?_
  obtain ⟨q_1, hc_1, hM⟩ := bd_some hM
  refine w_callS cx hP hD hS hA (c_X9_isLength g l p1 hc_1) [] rfl (by decide) rfl [ob h_t 9 [.ref h_t_now, .ref h_t_read, .ref h_t_past, .int t_saved, .ref h_t_text, .int t_letters, .int t_stage, .ref h_t_part, .int t_size, .ref h_t_matrix, .ref h_t_power, .ref h_t_product, .ref h_t_poly, .ref h_t_old, .ref h_t_step, .ref h_t_column, .ref h_t_moved, .ref h_t_traces, .ref h_t_signed, .ref h_t_plus, .ref h_t_minus, .ref h_t_walk], aI g h_t_now 29 a_t_now, aJ g h_t_matrix 324 a_t_matrix, aJ g h_t_power 324 a_t_power, aJ g h_t_product 324 a_t_product, aJ g h_t_traces 19 a_t_traces, aJ g h_t_signed 19 a_t_signed, aJ g h_t_plus 19 a_t_plus, aJ g h_t_minus 19 a_t_minus] rfl yq_X9_isLength m_826 m_827 m_51 m_828 ⟨Nat.le_of_ble_eq_true rfl, Nat.le_of_ble_eq_true rfl⟩ rfl rfl hl.1 (Nat.le_of_ble_eq_true rfl) dX9_positivePrimes_1 ⟨Nat.le_refl 0, Nat.le_refl 0⟩ rfl (fun H locs hP hD hS => ?_)
  refine lv_if_ne (tgt := 11) hx hb dX9_positivePrimes_4 (by decide) (fun c_4 => ?_) (fun c_4 => ?_)
  · have hM := if_f hM c_4
    refine lv_aload_n hx hb dX9_positivePrimes_11 rfl (lv_at hl 0 rfl) ?_
    refine lv_iload_n hx hb dX9_positivePrimes_12 rfl (lv_at hl 1 rfl) ?_
    obtain ⟨q_13, hc_13, hM⟩ := bd_some hM
    refine w_callV cx hP hD hS hA (c_X9_laysPrimes g l h_t h_t_now h_t_read h_t_past h_t_text h_t_part h_t_matrix h_t_power h_t_product h_t_poly h_t_old h_t_step h_t_column h_t_moved h_t_traces h_t_signed h_t_plus h_t_minus h_t_walk p1 t_saved t_letters t_stage t_size a_t_now a_t_matrix a_t_power a_t_product a_t_traces a_t_signed a_t_plus a_t_minus hc_13) [0, 1, 2, 3, 4, 5, 6, 7, 8] rfl (by decide) rfl [ob h_t 9 [.ref h_t_now, .ref h_t_read, .ref h_t_past, .int t_saved, .ref h_t_text, .int t_letters, .int t_stage, .ref h_t_part, .int q_13.1, .ref h_t_matrix, .ref h_t_power, .ref h_t_product, .ref h_t_poly, .ref h_t_old, .ref h_t_step, .ref h_t_column, .ref h_t_moved, .ref h_t_traces, .ref h_t_signed, .ref h_t_plus, .ref h_t_minus, .ref h_t_walk], aI g h_t_now 29 a_t_now, aJ g h_t_matrix 324 q_13.2.1, aJ g h_t_power 324 q_13.2.2.1, aJ g h_t_product 324 q_13.2.2.2.1, aJ g h_t_traces 19 q_13.2.2.2.2.1, aJ g h_t_signed 19 q_13.2.2.2.2.2.1, aJ g h_t_plus 19 q_13.2.2.2.2.2.2.1, aJ g h_t_minus 19 q_13.2.2.2.2.2.2.2] rfl 0 9 rfl rfl yq_X9_laysPrimes rfl m_858 m_860 m_31 m_51 m_861 ⟨Nat.le_of_ble_eq_true rfl, Nat.le_of_ble_eq_true rfl⟩ rfl rfl hl.1 (Nat.le_of_ble_eq_true rfl) dX9_positivePrimes_13 ⟨Nat.le_refl 0, Nat.le_refl 0⟩ rfl (fun H locs hP hD hS => ?_)
    refine lv_aload_n hx hb dX9_positivePrimes_16 rfl (lv_at hl 0 rfl) ?_
    refine w_get cx hP 0 9 19 rfl rfl (by decide) m_663 rfl rfl dX9_positivePrimes_17 ?_
    refine lv_iload_n hx hb dX9_positivePrimes_20 rfl (lv_at hl 1 rfl) ?_
    obtain ⟨g_21, hM⟩ := gd_some hM
    refine w_lald cx hP 7 rfl g_21 dX9_positivePrimes_21 ?_
    obtain rfl := Option.some.inj hM
    exact hfin 22 _ _ _ dX9_positivePrimes_22 hP hD hS
  · have hM := if_t hM c_4
    refine lv_ldc2 hx hb hown (hts _ m_845) dX9_positivePrimes_7 ?_
    obtain rfl := Option.some.inj hM
    exact hfin 10 _ _ _ dX9_positivePrimes_10 hP hD hS
noncomputable def b_X9_girth_8 (q_3 : Int32 × (Nat → Int64) × (Nat → Int64) × (Nat → Int64) × (Nat → Int64) × (Nat → Int64) × (Nat → Int64) × (Nat → Int64)) : Int32 → Option ((Int32) ⊕ ((Int32) ⊕ (Unit))) := fun z_8 =>
  if (nI 18) < z_8 then some (.inr (.inr ())) else gd (inb z_8 19) (gd (inb z_8 19) (if (lg_cmp ((q_3.2.2.2.2.2.2.1 z_8.toNatClampNeg) + (q_3.2.2.2.2.2.2.2 z_8.toNatClampNeg)) (0 : Int64)) ≤ 0 then some (.inl (z_8 + (nI 1))) else some (.inr (.inl z_8))))
noncomputable def f_X9_girth (t_saved : Int32) (t_letters : Int32) (t_stage : Int32) (t_size : Int32) (a_t_now : Nat → Int32) (a_t_matrix : Nat → Int64) (a_t_power : Nat → Int64) (a_t_product : Nat → Int64) (a_t_traces : Nat → Int64) (a_t_signed : Nat → Int64) (a_t_plus : Nat → Int64) (a_t_minus : Nat → Int64) : Option (Int32 × Int32 × (Nat → Int64) × (Nat → Int64) × (Nat → Int64) × (Nat → Int64) × (Nat → Int64) × (Nat → Int64) × (Nat → Int64)) :=
  bd (f_X9_laysPrimes (nI 18) t_saved t_letters t_stage t_size a_t_now a_t_matrix a_t_power a_t_product a_t_traces a_t_signed a_t_plus a_t_minus) (fun (q_3 : Int32 × (Nat → Int64) × (Nat → Int64) × (Nat → Int64) × (Nat → Int64) × (Nat → Int64) × (Nat → Int64) × (Nat → Int64)) => bd (wh (b_X9_girth_8 q_3) (nI 1)) (fun (r_8 : (Int32) ⊕ (Unit)) => ex2 r_8 (fun (r_8_0 : Int32) => some (r_8_0, q_3.1, q_3.2.1, q_3.2.2.1, q_3.2.2.2.1, q_3.2.2.2.2.1, q_3.2.2.2.2.2.1, q_3.2.2.2.2.2.2.1, q_3.2.2.2.2.2.2.2)) (fun (r_8_1 : Unit) => some ((nI 4294967287), q_3.1, q_3.2.1, q_3.2.2.1, q_3.2.2.2.1, q_3.2.2.2.2.1, q_3.2.2.2.2.2.1, q_3.2.2.2.2.2.2.1, q_3.2.2.2.2.2.2.2))))
theorem yq_X9_girth : yq yX9_girth 0 := by unfold yq; decide +kernel
set_option maxHeartbeats 4000000 in
set_option maxRecDepth 100000 in
theorem c_X9_girth (g : GG) (l : Launch) (h_t : Nat) (h_t_now : Nat) (h_t_read : Nat) (h_t_past : Nat) (h_t_text : Nat) (h_t_part : Nat) (h_t_matrix : Nat) (h_t_power : Nat) (h_t_product : Nat) (h_t_poly : Nat) (h_t_old : Nat) (h_t_step : Nat) (h_t_column : Nat) (h_t_moved : Nat) (h_t_traces : Nat) (h_t_signed : Nat) (h_t_plus : Nat) (h_t_minus : Nat) (h_t_walk : Nat) (t_saved : Int32) (t_letters : Int32) (t_stage : Int32) (t_size : Int32) (a_t_now : Nat → Int32) (a_t_matrix : Nat → Int64) (a_t_power : Nat → Int64) (a_t_product : Nat → Int64) (a_t_traces : Nat → Int64) (a_t_signed : Nat → Int64) (a_t_plus : Nat → Int64) (a_t_minus : Nat → Int64) {R : Int32 × Int32 × (Nat → Int64) × (Nat → Int64) × (Nat → Int64) × (Nat → Int64) × (Nat → Int64) × (Nat → Int64) × (Nat → Int64)} (hM : f_X9_girth t_saved t_letters t_stage t_size a_t_now a_t_matrix a_t_power a_t_product a_t_traces a_t_signed a_t_plus a_t_minus = some R) : CT g l yX9_girth cX9_girth 2 (some .int) 5 121 [.ref h_t] [ob h_t 9 [.ref h_t_now, .ref h_t_read, .ref h_t_past, .int t_saved, .ref h_t_text, .int t_letters, .int t_stage, .ref h_t_part, .int t_size, .ref h_t_matrix, .ref h_t_power, .ref h_t_product, .ref h_t_poly, .ref h_t_old, .ref h_t_step, .ref h_t_column, .ref h_t_moved, .ref h_t_traces, .ref h_t_signed, .ref h_t_plus, .ref h_t_minus, .ref h_t_walk], aI g h_t_now 29 a_t_now, aJ g h_t_matrix 324 a_t_matrix, aJ g h_t_power 324 a_t_power, aJ g h_t_product 324 a_t_product, aJ g h_t_traces 19 a_t_traces, aJ g h_t_signed 19 a_t_signed, aJ g h_t_plus 19 a_t_plus, aJ g h_t_minus 19 a_t_minus] [ob h_t 9 [.ref h_t_now, .ref h_t_read, .ref h_t_past, .int t_saved, .ref h_t_text, .int t_letters, .int t_stage, .ref h_t_part, .int R.2.1, .ref h_t_matrix, .ref h_t_power, .ref h_t_product, .ref h_t_poly, .ref h_t_old, .ref h_t_step, .ref h_t_column, .ref h_t_moved, .ref h_t_traces, .ref h_t_signed, .ref h_t_plus, .ref h_t_minus, .ref h_t_walk], aI g h_t_now 29 a_t_now, aJ g h_t_matrix 324 R.2.2.1, aJ g h_t_power 324 R.2.2.2.1, aJ g h_t_product 324 R.2.2.2.2.1, aJ g h_t_traces 19 R.2.2.2.2.2.1, aJ g h_t_signed 19 R.2.2.2.2.2.2.1, aJ g h_t_plus 19 R.2.2.2.2.2.2.2.1, aJ g h_t_minus 19 R.2.2.2.2.2.2.2.2] (some (.int R.1)) := by
  refine ct_i (by decide +kernel) (Nat.le_of_ble_eq_true rfl) ?_
  intro p e s m args below meth c Q A ls cx hP hD hA hl hfin
  obtain ⟨hx, hb, hml, hown, hts, hK⟩ := id cx
  have hl : lv_has ls 2 [(0, .ref h_t)] := hl
  have hS : va_S A s.heap s.heap [] := va_S.rf
  refine lv_aload_n hx hb dX9_girth_0 rfl (lv_at hl 0 rfl) ?_
  refine lv_bipush (v := (nI 18)) hx hb dX9_girth_1 (by decide) ?_
  obtain ⟨q_3, hc_3, hM⟩ := bd_some hM
  refine w_callV cx hP hD hS hA (c_X9_laysPrimes g l h_t h_t_now h_t_read h_t_past h_t_text h_t_part h_t_matrix h_t_power h_t_product h_t_poly h_t_old h_t_step h_t_column h_t_moved h_t_traces h_t_signed h_t_plus h_t_minus h_t_walk (nI 18) t_saved t_letters t_stage t_size a_t_now a_t_matrix a_t_power a_t_product a_t_traces a_t_signed a_t_plus a_t_minus hc_3) [0, 1, 2, 3, 4, 5, 6, 7, 8] rfl (by decide) rfl [ob h_t 9 [.ref h_t_now, .ref h_t_read, .ref h_t_past, .int t_saved, .ref h_t_text, .int t_letters, .int t_stage, .ref h_t_part, .int q_3.1, .ref h_t_matrix, .ref h_t_power, .ref h_t_product, .ref h_t_poly, .ref h_t_old, .ref h_t_step, .ref h_t_column, .ref h_t_moved, .ref h_t_traces, .ref h_t_signed, .ref h_t_plus, .ref h_t_minus, .ref h_t_walk], aI g h_t_now 29 a_t_now, aJ g h_t_matrix 324 q_3.2.1, aJ g h_t_power 324 q_3.2.2.1, aJ g h_t_product 324 q_3.2.2.2.1, aJ g h_t_traces 19 q_3.2.2.2.2.1, aJ g h_t_signed 19 q_3.2.2.2.2.2.1, aJ g h_t_plus 19 q_3.2.2.2.2.2.2.1, aJ g h_t_minus 19 q_3.2.2.2.2.2.2.2] rfl 0 9 rfl rfl yq_X9_laysPrimes rfl m_858 m_860 m_31 m_51 m_861 ⟨Nat.le_of_ble_eq_true rfl, Nat.le_of_ble_eq_true rfl⟩ rfl rfl hl.1 (Nat.le_of_ble_eq_true rfl) dX9_girth_3 ⟨Nat.le_refl 0, Nat.le_refl 0⟩ rfl (fun H locs hP hD hS => ?_)
  refine lv_iconst (v := (nI 1)) hx hb dX9_girth_6 (by decide) ?_
  refine lv_istore_n (lv' := [(1, .int (nI 1)), (0, .ref h_t)]) hx hb dX9_girth_7 rfl hl (by decide) rfl (fun ls hl => ?_)
  obtain ⟨r_8, hw, hM⟩ := bd_some hM
  obtain ⟨n, hn⟩ := wh_some hw
  clear hw
  have hE_8_0 : ∀ (r_8_0 : Int32), r_8 = .inl r_8_0 → ∀ (H : Heap) (locs : List Loc) (ls : Array Slot), va_P (gD g) vwCl [ob h_t 9 [.ref h_t_now, .ref h_t_read, .ref h_t_past, .int t_saved, .ref h_t_text, .int t_letters, .int t_stage, .ref h_t_part, .int q_3.1, .ref h_t_matrix, .ref h_t_power, .ref h_t_product, .ref h_t_poly, .ref h_t_old, .ref h_t_step, .ref h_t_column, .ref h_t_moved, .ref h_t_traces, .ref h_t_signed, .ref h_t_plus, .ref h_t_minus, .ref h_t_walk], aI g h_t_now 29 a_t_now, aJ g h_t_matrix 324 q_3.2.1, aJ g h_t_power 324 q_3.2.2.1, aJ g h_t_product 324 q_3.2.2.2.1, aJ g h_t_traces 19 q_3.2.2.2.2.1, aJ g h_t_signed 19 q_3.2.2.2.2.2.1, aJ g h_t_plus 19 q_3.2.2.2.2.2.2.1, aJ g h_t_minus 19 q_3.2.2.2.2.2.2.2] H → va_D A [ob h_t 9 [.ref h_t_now, .ref h_t_read, .ref h_t_past, .int t_saved, .ref h_t_text, .int t_letters, .int t_stage, .ref h_t_part, .int q_3.1, .ref h_t_matrix, .ref h_t_power, .ref h_t_product, .ref h_t_poly, .ref h_t_old, .ref h_t_step, .ref h_t_column, .ref h_t_moved, .ref h_t_traces, .ref h_t_signed, .ref h_t_plus, .ref h_t_minus, .ref h_t_walk], aI g h_t_now 29 a_t_now, aJ g h_t_matrix 324 q_3.2.1, aJ g h_t_power 324 q_3.2.2.1, aJ g h_t_product 324 q_3.2.2.2.1, aJ g h_t_traces 19 q_3.2.2.2.2.1, aJ g h_t_signed 19 q_3.2.2.2.2.2.1, aJ g h_t_plus 19 q_3.2.2.2.2.2.2.1, aJ g h_t_minus 19 q_3.2.2.2.2.2.2.2] → va_S A s.heap H locs → lv_has ls 2 [(1, .int r_8_0)] → W p l e (rmv 5 121) s m args below meth c H locs 0 0 Q (F0 m 32 ls []) := by
    intro r_8_0 hr H locs ls hP hD hS hl
    have hM := ex2_0 hM hr
    refine lv_iload_n hx hb dX9_girth_32 rfl (lv_at hl 0 rfl) ?_
    obtain rfl := Option.some.inj hM
    exact hfin 33 _ _ _ dX9_girth_33 hP hD hS
  have hE_8_1 : ∀ (r_8_1 : Unit), r_8 = .inr r_8_1 → ∀ (H : Heap) (locs : List Loc) (ls : Array Slot), va_P (gD g) vwCl [ob h_t 9 [.ref h_t_now, .ref h_t_read, .ref h_t_past, .int t_saved, .ref h_t_text, .int t_letters, .int t_stage, .ref h_t_part, .int q_3.1, .ref h_t_matrix, .ref h_t_power, .ref h_t_product, .ref h_t_poly, .ref h_t_old, .ref h_t_step, .ref h_t_column, .ref h_t_moved, .ref h_t_traces, .ref h_t_signed, .ref h_t_plus, .ref h_t_minus, .ref h_t_walk], aI g h_t_now 29 a_t_now, aJ g h_t_matrix 324 q_3.2.1, aJ g h_t_power 324 q_3.2.2.1, aJ g h_t_product 324 q_3.2.2.2.1, aJ g h_t_traces 19 q_3.2.2.2.2.1, aJ g h_t_signed 19 q_3.2.2.2.2.2.1, aJ g h_t_plus 19 q_3.2.2.2.2.2.2.1, aJ g h_t_minus 19 q_3.2.2.2.2.2.2.2] H → va_D A [ob h_t 9 [.ref h_t_now, .ref h_t_read, .ref h_t_past, .int t_saved, .ref h_t_text, .int t_letters, .int t_stage, .ref h_t_part, .int q_3.1, .ref h_t_matrix, .ref h_t_power, .ref h_t_product, .ref h_t_poly, .ref h_t_old, .ref h_t_step, .ref h_t_column, .ref h_t_moved, .ref h_t_traces, .ref h_t_signed, .ref h_t_plus, .ref h_t_minus, .ref h_t_walk], aI g h_t_now 29 a_t_now, aJ g h_t_matrix 324 q_3.2.1, aJ g h_t_power 324 q_3.2.2.1, aJ g h_t_product 324 q_3.2.2.2.1, aJ g h_t_traces 19 q_3.2.2.2.2.1, aJ g h_t_signed 19 q_3.2.2.2.2.2.1, aJ g h_t_plus 19 q_3.2.2.2.2.2.2.1, aJ g h_t_minus 19 q_3.2.2.2.2.2.2.2] → va_S A s.heap H locs → lv_has ls 2 [] → W p l e (rmv 5 121) s m args below meth c H locs 0 0 Q (F0 m 40 ls []) := by
    intro r_8_1 hr H locs ls hP hD hS hl
    have hM := ex2_1 hM hr
    refine lv_bipush (v := (nI 4294967287)) hx hb dX9_girth_40 (by decide) ?_
    obtain rfl := Option.some.inj hM
    exact hfin 42 _ _ _ dX9_girth_42 hP hD hS
  clear hM
  have hL_8 : ∀ (n : Nat) (z_8 : Int32), it (b_X9_girth_8 q_3) n z_8 = some r_8 → ∀ (H : Heap) (locs : List Loc) (ls : Array Slot), va_P (gD g) vwCl [ob h_t 9 [.ref h_t_now, .ref h_t_read, .ref h_t_past, .int t_saved, .ref h_t_text, .int t_letters, .int t_stage, .ref h_t_part, .int q_3.1, .ref h_t_matrix, .ref h_t_power, .ref h_t_product, .ref h_t_poly, .ref h_t_old, .ref h_t_step, .ref h_t_column, .ref h_t_moved, .ref h_t_traces, .ref h_t_signed, .ref h_t_plus, .ref h_t_minus, .ref h_t_walk], aI g h_t_now 29 a_t_now, aJ g h_t_matrix 324 q_3.2.1, aJ g h_t_power 324 q_3.2.2.1, aJ g h_t_product 324 q_3.2.2.2.1, aJ g h_t_traces 19 q_3.2.2.2.2.1, aJ g h_t_signed 19 q_3.2.2.2.2.2.1, aJ g h_t_plus 19 q_3.2.2.2.2.2.2.1, aJ g h_t_minus 19 q_3.2.2.2.2.2.2.2] H → va_D A [ob h_t 9 [.ref h_t_now, .ref h_t_read, .ref h_t_past, .int t_saved, .ref h_t_text, .int t_letters, .int t_stage, .ref h_t_part, .int q_3.1, .ref h_t_matrix, .ref h_t_power, .ref h_t_product, .ref h_t_poly, .ref h_t_old, .ref h_t_step, .ref h_t_column, .ref h_t_moved, .ref h_t_traces, .ref h_t_signed, .ref h_t_plus, .ref h_t_minus, .ref h_t_walk], aI g h_t_now 29 a_t_now, aJ g h_t_matrix 324 q_3.2.1, aJ g h_t_power 324 q_3.2.2.1, aJ g h_t_product 324 q_3.2.2.2.1, aJ g h_t_traces 19 q_3.2.2.2.2.1, aJ g h_t_signed 19 q_3.2.2.2.2.2.1, aJ g h_t_plus 19 q_3.2.2.2.2.2.2.1, aJ g h_t_minus 19 q_3.2.2.2.2.2.2.2] → va_S A s.heap H locs → lv_has ls 2 [(1, .int z_8), (0, .ref h_t)] → W p l e (rmv 5 121) s m args below meth c H locs 0 0 Q (F0 m 8 ls []) := by
    intro n
    induction n with
    | zero => intro z_8 hn; exact (it_zero hn).elim
    | succ n ih =>
      intro z_8 hn H locs ls hP hD hS hl
      obtain ⟨x, hM, hX⟩ := it_succ hn
      clear hn
      refine lv_iload_n hx hb dX9_girth_8 rfl (lv_at hl 0 rfl) ?_
      refine lv_bipush (v := (nI 18)) hx hb dX9_girth_9 (by decide) ?_
      refine lv_icmp_gt (tgt := 40) hx hb dX9_girth_11 (by decide) (fun c_11 => ?_) (fun c_11 => ?_)
      · have hM := if_t hM c_11
        obtain rfl := Option.some.inj hM
        obtain rfl : _ = r_8 := hX
        exact hE_8_1 _ rfl _ _ _ hP hD hS (lv_sub hl [] rfl)
      · have hM := if_f hM c_11
        refine lv_aload_n hx hb dX9_girth_14 rfl (lv_at hl 1 rfl) ?_
        refine w_get cx hP 0 9 19 rfl rfl (by decide) m_663 rfl rfl dX9_girth_15 ?_
        refine lv_iload_n hx hb dX9_girth_18 rfl (lv_at hl 0 rfl) ?_
        obtain ⟨g_19, hM⟩ := gd_some hM
        refine w_lald cx hP 7 rfl g_19 dX9_girth_19 ?_
        refine lv_aload_n hx hb dX9_girth_20 rfl (lv_at hl 1 rfl) ?_
        refine w_get cx hP 0 9 20 rfl rfl (by decide) m_664 rfl rfl dX9_girth_21 ?_
        refine lv_iload_n hx hb dX9_girth_24 rfl (lv_at hl 0 rfl) ?_
        obtain ⟨g_25, hM⟩ := gd_some hM
        refine w_lald cx hP 8 rfl g_25 dX9_girth_25 ?_
        refine lv_ladd hx hb dX9_girth_26 ?_
        refine lv_lconst (v := (0 : Int64)) hx hb dX9_girth_27 (by decide) ?_
        refine W.lcmp hx hb dX9_girth_28 ?_
        refine lv_if_le (tgt := 34) hx hb dX9_girth_29 (by decide) (fun c_29 => ?_) (fun c_29 => ?_)
        · have hM := if_t hM c_29
          refine lv_iinc (v := z_8 + (nI 1)) (lv' := [(1, .int (z_8 + (nI 1))), (0, .ref h_t)]) hx hb dX9_girth_34 hl (k := 0) rfl (congrArg (fun q => z_8 + q) (show Int32.ofInt (1) = (nI 1) by decide)) (by decide) rfl (fun ls hl => ?_)
          refine lv_goto (tgt := 8) hx hb dX9_girth_37 (by decide) ?_
          obtain rfl := Option.some.inj hM
          exact ih _ hX _ _ _ hP hD hS (lv_sub hl [0, 1] rfl)
        · have hM := if_f hM c_29
          obtain rfl := Option.some.inj hM
          obtain rfl : _ = r_8 := hX
          exact hE_8_0 _ rfl _ _ _ hP hD hS (lv_sub hl [0] rfl)
  exact hL_8 n _ hn _ _ _ hP hD hS (lv_sub hl [0, 1] rfl)
noncomputable def b_X9_period_21 : Int32 × Int32 → Option ((Int32 × Int32) ⊕ ((Int32))) := fun z_21 =>
  if z_21.1 = 0 then some (.inr z_21.2) else gd (nz z_21.1) (nm (z_21.2 - z_21.2 / z_21.1 * z_21.1) (fun (x_30 : Int32) => some (.inl (x_30, z_21.1))))
noncomputable def b_X9_period_10 (q_3 : Int32 × (Nat → Int64) × (Nat → Int64) × (Nat → Int64) × (Nat → Int64) × (Nat → Int64) × (Nat → Int64) × (Nat → Int64)) : Int32 × Int32 → Option ((Int32 × Int32) ⊕ ((Int32))) := fun z_10 =>
  if (nI 18) < z_10.1 then some (.inr z_10.2) else bd (wh b_X9_period_21 (z_10.2, z_10.1)) (fun (r_21 : Int32) => gd (inb z_10.1 19) (gd (inb z_10.1 19) (bd (if (lg_cmp ((q_3.2.2.2.2.2.2.1 z_10.1.toNatClampNeg) + (q_3.2.2.2.2.2.2.2 z_10.1.toNatClampNeg)) (0 : Int64)) ≤ 0 then some z_10.2 else some r_21) (fun (j_57 : Int32) => some (.inl (z_10.1 + (nI 1), j_57))))))
noncomputable def f_X9_period (t_saved : Int32) (t_letters : Int32) (t_stage : Int32) (t_size : Int32) (a_t_now : Nat → Int32) (a_t_matrix : Nat → Int64) (a_t_power : Nat → Int64) (a_t_product : Nat → Int64) (a_t_traces : Nat → Int64) (a_t_signed : Nat → Int64) (a_t_plus : Nat → Int64) (a_t_minus : Nat → Int64) : Option (Int32 × Int32 × (Nat → Int64) × (Nat → Int64) × (Nat → Int64) × (Nat → Int64) × (Nat → Int64) × (Nat → Int64) × (Nat → Int64)) :=
  bd (f_X9_laysPrimes (nI 18) t_saved t_letters t_stage t_size a_t_now a_t_matrix a_t_power a_t_product a_t_traces a_t_signed a_t_plus a_t_minus) (fun (q_3 : Int32 × (Nat → Int64) × (Nat → Int64) × (Nat → Int64) × (Nat → Int64) × (Nat → Int64) × (Nat → Int64) × (Nat → Int64)) => bd (wh (b_X9_period_10 q_3) ((nI 1), (nI 0))) (fun (r_10 : Int32) => if r_10 = 0 then some ((nI 4294967287), q_3.1, q_3.2.1, q_3.2.2.1, q_3.2.2.2.1, q_3.2.2.2.2.1, q_3.2.2.2.2.2.1, q_3.2.2.2.2.2.2.1, q_3.2.2.2.2.2.2.2) else some (r_10, q_3.1, q_3.2.1, q_3.2.2.1, q_3.2.2.2.1, q_3.2.2.2.2.1, q_3.2.2.2.2.2.1, q_3.2.2.2.2.2.2.1, q_3.2.2.2.2.2.2.2)))
theorem yq_X9_period : yq yX9_period 0 := by unfold yq; decide +kernel
set_option maxHeartbeats 4000000 in
set_option maxRecDepth 100000 in
theorem c_X9_period (g : GG) (l : Launch) (h_t : Nat) (h_t_now : Nat) (h_t_read : Nat) (h_t_past : Nat) (h_t_text : Nat) (h_t_part : Nat) (h_t_matrix : Nat) (h_t_power : Nat) (h_t_product : Nat) (h_t_poly : Nat) (h_t_old : Nat) (h_t_step : Nat) (h_t_column : Nat) (h_t_moved : Nat) (h_t_traces : Nat) (h_t_signed : Nat) (h_t_plus : Nat) (h_t_minus : Nat) (h_t_walk : Nat) (t_saved : Int32) (t_letters : Int32) (t_stage : Int32) (t_size : Int32) (a_t_now : Nat → Int32) (a_t_matrix : Nat → Int64) (a_t_power : Nat → Int64) (a_t_product : Nat → Int64) (a_t_traces : Nat → Int64) (a_t_signed : Nat → Int64) (a_t_plus : Nat → Int64) (a_t_minus : Nat → Int64) {R : Int32 × Int32 × (Nat → Int64) × (Nat → Int64) × (Nat → Int64) × (Nat → Int64) × (Nat → Int64) × (Nat → Int64) × (Nat → Int64)} (hM : f_X9_period t_saved t_letters t_stage t_size a_t_now a_t_matrix a_t_power a_t_product a_t_traces a_t_signed a_t_plus a_t_minus = some R) : CT g l yX9_period cX9_period 6 (some .int) 5 121 [.ref h_t] [ob h_t 9 [.ref h_t_now, .ref h_t_read, .ref h_t_past, .int t_saved, .ref h_t_text, .int t_letters, .int t_stage, .ref h_t_part, .int t_size, .ref h_t_matrix, .ref h_t_power, .ref h_t_product, .ref h_t_poly, .ref h_t_old, .ref h_t_step, .ref h_t_column, .ref h_t_moved, .ref h_t_traces, .ref h_t_signed, .ref h_t_plus, .ref h_t_minus, .ref h_t_walk], aI g h_t_now 29 a_t_now, aJ g h_t_matrix 324 a_t_matrix, aJ g h_t_power 324 a_t_power, aJ g h_t_product 324 a_t_product, aJ g h_t_traces 19 a_t_traces, aJ g h_t_signed 19 a_t_signed, aJ g h_t_plus 19 a_t_plus, aJ g h_t_minus 19 a_t_minus] [ob h_t 9 [.ref h_t_now, .ref h_t_read, .ref h_t_past, .int t_saved, .ref h_t_text, .int t_letters, .int t_stage, .ref h_t_part, .int R.2.1, .ref h_t_matrix, .ref h_t_power, .ref h_t_product, .ref h_t_poly, .ref h_t_old, .ref h_t_step, .ref h_t_column, .ref h_t_moved, .ref h_t_traces, .ref h_t_signed, .ref h_t_plus, .ref h_t_minus, .ref h_t_walk], aI g h_t_now 29 a_t_now, aJ g h_t_matrix 324 R.2.2.1, aJ g h_t_power 324 R.2.2.2.1, aJ g h_t_product 324 R.2.2.2.2.1, aJ g h_t_traces 19 R.2.2.2.2.2.1, aJ g h_t_signed 19 R.2.2.2.2.2.2.1, aJ g h_t_plus 19 R.2.2.2.2.2.2.2.1, aJ g h_t_minus 19 R.2.2.2.2.2.2.2.2] (some (.int R.1)) := by
  refine ct_i (by decide +kernel) (Nat.le_of_ble_eq_true rfl) ?_
  intro p e s m args below meth c Q A ls cx hP hD hA hl hfin
  obtain ⟨hx, hb, hml, hown, hts, hK⟩ := id cx
  have hl : lv_has ls 6 [(0, .ref h_t)] := hl
  have hS : va_S A s.heap s.heap [] := va_S.rf
  refine lv_aload_n hx hb dX9_period_0 rfl (lv_at hl 0 rfl) ?_
  refine lv_bipush (v := (nI 18)) hx hb dX9_period_1 (by decide) ?_
  obtain ⟨q_3, hc_3, hM⟩ := bd_some hM
  refine w_callV cx hP hD hS hA (c_X9_laysPrimes g l h_t h_t_now h_t_read h_t_past h_t_text h_t_part h_t_matrix h_t_power h_t_product h_t_poly h_t_old h_t_step h_t_column h_t_moved h_t_traces h_t_signed h_t_plus h_t_minus h_t_walk (nI 18) t_saved t_letters t_stage t_size a_t_now a_t_matrix a_t_power a_t_product a_t_traces a_t_signed a_t_plus a_t_minus hc_3) [0, 1, 2, 3, 4, 5, 6, 7, 8] rfl (by decide) rfl [ob h_t 9 [.ref h_t_now, .ref h_t_read, .ref h_t_past, .int t_saved, .ref h_t_text, .int t_letters, .int t_stage, .ref h_t_part, .int q_3.1, .ref h_t_matrix, .ref h_t_power, .ref h_t_product, .ref h_t_poly, .ref h_t_old, .ref h_t_step, .ref h_t_column, .ref h_t_moved, .ref h_t_traces, .ref h_t_signed, .ref h_t_plus, .ref h_t_minus, .ref h_t_walk], aI g h_t_now 29 a_t_now, aJ g h_t_matrix 324 q_3.2.1, aJ g h_t_power 324 q_3.2.2.1, aJ g h_t_product 324 q_3.2.2.2.1, aJ g h_t_traces 19 q_3.2.2.2.2.1, aJ g h_t_signed 19 q_3.2.2.2.2.2.1, aJ g h_t_plus 19 q_3.2.2.2.2.2.2.1, aJ g h_t_minus 19 q_3.2.2.2.2.2.2.2] rfl 0 9 rfl rfl yq_X9_laysPrimes rfl m_858 m_860 m_31 m_51 m_861 ⟨Nat.le_of_ble_eq_true rfl, Nat.le_of_ble_eq_true rfl⟩ rfl rfl hl.1 (Nat.le_of_ble_eq_true rfl) dX9_period_3 ⟨Nat.le_refl 0, Nat.le_refl 0⟩ rfl (fun H locs hP hD hS => ?_)
  refine lv_iconst (v := (nI 0)) hx hb dX9_period_6 (by decide) ?_
  refine lv_istore_n (lv' := [(1, .int (nI 0)), (0, .ref h_t)]) hx hb dX9_period_7 rfl hl (by decide) rfl (fun ls hl => ?_)
  refine lv_iconst (v := (nI 1)) hx hb dX9_period_8 (by decide) ?_
  refine lv_istore_n (lv' := [(2, .int (nI 1)), (1, .int (nI 0)), (0, .ref h_t)]) hx hb dX9_period_9 rfl hl (by decide) rfl (fun ls hl => ?_)
  obtain ⟨r_10, hw, hM⟩ := bd_some hM
  obtain ⟨n, hn⟩ := wh_some hw
  clear hw
  have hE_10_0 : ∀ (H : Heap) (locs : List Loc) (ls : Array Slot), va_P (gD g) vwCl [ob h_t 9 [.ref h_t_now, .ref h_t_read, .ref h_t_past, .int t_saved, .ref h_t_text, .int t_letters, .int t_stage, .ref h_t_part, .int q_3.1, .ref h_t_matrix, .ref h_t_power, .ref h_t_product, .ref h_t_poly, .ref h_t_old, .ref h_t_step, .ref h_t_column, .ref h_t_moved, .ref h_t_traces, .ref h_t_signed, .ref h_t_plus, .ref h_t_minus, .ref h_t_walk], aI g h_t_now 29 a_t_now, aJ g h_t_matrix 324 q_3.2.1, aJ g h_t_power 324 q_3.2.2.1, aJ g h_t_product 324 q_3.2.2.2.1, aJ g h_t_traces 19 q_3.2.2.2.2.1, aJ g h_t_signed 19 q_3.2.2.2.2.2.1, aJ g h_t_plus 19 q_3.2.2.2.2.2.2.1, aJ g h_t_minus 19 q_3.2.2.2.2.2.2.2] H → va_D A [ob h_t 9 [.ref h_t_now, .ref h_t_read, .ref h_t_past, .int t_saved, .ref h_t_text, .int t_letters, .int t_stage, .ref h_t_part, .int q_3.1, .ref h_t_matrix, .ref h_t_power, .ref h_t_product, .ref h_t_poly, .ref h_t_old, .ref h_t_step, .ref h_t_column, .ref h_t_moved, .ref h_t_traces, .ref h_t_signed, .ref h_t_plus, .ref h_t_minus, .ref h_t_walk], aI g h_t_now 29 a_t_now, aJ g h_t_matrix 324 q_3.2.1, aJ g h_t_power 324 q_3.2.2.1, aJ g h_t_product 324 q_3.2.2.2.1, aJ g h_t_traces 19 q_3.2.2.2.2.1, aJ g h_t_signed 19 q_3.2.2.2.2.2.1, aJ g h_t_plus 19 q_3.2.2.2.2.2.2.1, aJ g h_t_minus 19 q_3.2.2.2.2.2.2.2] → va_S A s.heap H locs → lv_has ls 6 [(1, .int r_10)] → W p l e (rmv 5 121) s m args below meth c H locs 0 0 Q (F0 m 72 ls []) := by
    intro H locs ls hP hD hS hl
    refine lv_iload_n hx hb dX9_period_72 rfl (lv_at hl 0 rfl) ?_
    refine lv_if_ne (tgt := 81) hx hb dX9_period_73 (by decide) (fun c_73 => ?_) (fun c_73 => ?_)
    · have hM := if_f hM c_73
      refine lv_iload_n hx hb dX9_period_81 rfl (lv_at hl 0 rfl) ?_
      obtain rfl := Option.some.inj hM
      exact hfin 82 _ _ _ dX9_period_82 hP hD hS
    · have hM := if_t hM c_73
      refine lv_bipush (v := (nI 4294967287)) hx hb dX9_period_76 (by decide) ?_
      refine lv_goto (tgt := 82) hx hb dX9_period_78 (by decide) ?_
      obtain rfl := Option.some.inj hM
      exact hfin 82 _ _ _ dX9_period_82 hP hD hS
  clear hM
  have hL_10 : ∀ (n : Nat) (z_10 : Int32 × Int32), it (b_X9_period_10 q_3) n z_10 = some r_10 → ∀ (H : Heap) (locs : List Loc) (ls : Array Slot), va_P (gD g) vwCl [ob h_t 9 [.ref h_t_now, .ref h_t_read, .ref h_t_past, .int t_saved, .ref h_t_text, .int t_letters, .int t_stage, .ref h_t_part, .int q_3.1, .ref h_t_matrix, .ref h_t_power, .ref h_t_product, .ref h_t_poly, .ref h_t_old, .ref h_t_step, .ref h_t_column, .ref h_t_moved, .ref h_t_traces, .ref h_t_signed, .ref h_t_plus, .ref h_t_minus, .ref h_t_walk], aI g h_t_now 29 a_t_now, aJ g h_t_matrix 324 q_3.2.1, aJ g h_t_power 324 q_3.2.2.1, aJ g h_t_product 324 q_3.2.2.2.1, aJ g h_t_traces 19 q_3.2.2.2.2.1, aJ g h_t_signed 19 q_3.2.2.2.2.2.1, aJ g h_t_plus 19 q_3.2.2.2.2.2.2.1, aJ g h_t_minus 19 q_3.2.2.2.2.2.2.2] H → va_D A [ob h_t 9 [.ref h_t_now, .ref h_t_read, .ref h_t_past, .int t_saved, .ref h_t_text, .int t_letters, .int t_stage, .ref h_t_part, .int q_3.1, .ref h_t_matrix, .ref h_t_power, .ref h_t_product, .ref h_t_poly, .ref h_t_old, .ref h_t_step, .ref h_t_column, .ref h_t_moved, .ref h_t_traces, .ref h_t_signed, .ref h_t_plus, .ref h_t_minus, .ref h_t_walk], aI g h_t_now 29 a_t_now, aJ g h_t_matrix 324 q_3.2.1, aJ g h_t_power 324 q_3.2.2.1, aJ g h_t_product 324 q_3.2.2.2.1, aJ g h_t_traces 19 q_3.2.2.2.2.1, aJ g h_t_signed 19 q_3.2.2.2.2.2.1, aJ g h_t_plus 19 q_3.2.2.2.2.2.2.1, aJ g h_t_minus 19 q_3.2.2.2.2.2.2.2] → va_S A s.heap H locs → lv_has ls 6 [(2, .int z_10.1), (1, .int z_10.2), (0, .ref h_t)] → W p l e (rmv 5 121) s m args below meth c H locs 0 0 Q (F0 m 10 ls []) := by
    intro n
    induction n with
    | zero => intro z_10 hn; exact (it_zero hn).elim
    | succ n ih =>
      intro z_10 hn H locs ls hP hD hS hl
      obtain ⟨x, hM, hX⟩ := it_succ hn
      clear hn
      refine lv_iload_n hx hb dX9_period_10 rfl (lv_at hl 0 rfl) ?_
      refine lv_bipush (v := (nI 18)) hx hb dX9_period_11 (by decide) ?_
      refine lv_icmp_gt (tgt := 72) hx hb dX9_period_13 (by decide) (fun c_13 => ?_) (fun c_13 => ?_)
      · have hM := if_t hM c_13
        obtain rfl := Option.some.inj hM
        obtain rfl : _ = r_10 := hX
        exact hE_10_0 _ _ _ hP hD hS (lv_sub hl [1] rfl)
      · have hM := if_f hM c_13
        refine lv_iload_n hx hb dX9_period_16 rfl (lv_at hl 0 rfl) ?_
        refine lv_istore_n (lv' := [(3, .int z_10.1), (2, .int z_10.1), (1, .int z_10.2), (0, .ref h_t)]) hx hb dX9_period_17 rfl hl (by decide) rfl (fun ls hl => ?_)
        refine lv_iload_n hx hb dX9_period_18 rfl (lv_at hl 2 rfl) ?_
        refine lv_istore (lv' := [(4, .int z_10.2), (3, .int z_10.1), (2, .int z_10.1), (1, .int z_10.2), (0, .ref h_t)]) hx hb dX9_period_19 hl (by decide) rfl (fun ls hl => ?_)
        obtain ⟨r_21, hw, hM⟩ := bd_some hM
        obtain ⟨n, hn⟩ := wh_some hw
        clear hw
        have hE_21_0 : ∀ (H : Heap) (locs : List Loc) (ls : Array Slot), va_P (gD g) vwCl [ob h_t 9 [.ref h_t_now, .ref h_t_read, .ref h_t_past, .int t_saved, .ref h_t_text, .int t_letters, .int t_stage, .ref h_t_part, .int q_3.1, .ref h_t_matrix, .ref h_t_power, .ref h_t_product, .ref h_t_poly, .ref h_t_old, .ref h_t_step, .ref h_t_column, .ref h_t_moved, .ref h_t_traces, .ref h_t_signed, .ref h_t_plus, .ref h_t_minus, .ref h_t_walk], aI g h_t_now 29 a_t_now, aJ g h_t_matrix 324 q_3.2.1, aJ g h_t_power 324 q_3.2.2.1, aJ g h_t_product 324 q_3.2.2.2.1, aJ g h_t_traces 19 q_3.2.2.2.2.1, aJ g h_t_signed 19 q_3.2.2.2.2.2.1, aJ g h_t_plus 19 q_3.2.2.2.2.2.2.1, aJ g h_t_minus 19 q_3.2.2.2.2.2.2.2] H → va_D A [ob h_t 9 [.ref h_t_now, .ref h_t_read, .ref h_t_past, .int t_saved, .ref h_t_text, .int t_letters, .int t_stage, .ref h_t_part, .int q_3.1, .ref h_t_matrix, .ref h_t_power, .ref h_t_product, .ref h_t_poly, .ref h_t_old, .ref h_t_step, .ref h_t_column, .ref h_t_moved, .ref h_t_traces, .ref h_t_signed, .ref h_t_plus, .ref h_t_minus, .ref h_t_walk], aI g h_t_now 29 a_t_now, aJ g h_t_matrix 324 q_3.2.1, aJ g h_t_power 324 q_3.2.2.1, aJ g h_t_product 324 q_3.2.2.2.1, aJ g h_t_traces 19 q_3.2.2.2.2.1, aJ g h_t_signed 19 q_3.2.2.2.2.2.1, aJ g h_t_plus 19 q_3.2.2.2.2.2.2.1, aJ g h_t_minus 19 q_3.2.2.2.2.2.2.2] → va_S A s.heap H locs → lv_has ls 6 [(3, .int r_21), (2, .int z_10.1), (1, .int z_10.2), (0, .ref h_t)] → W p l e (rmv 5 121) s m args below meth c H locs 0 0 Q (F0 m 42 ls []) := by
          intro H locs ls hP hD hS hl
          refine lv_aload_n hx hb dX9_period_42 rfl (lv_at hl 3 rfl) ?_
          refine w_get cx hP 0 9 19 rfl rfl (by decide) m_663 rfl rfl dX9_period_43 ?_
          refine lv_iload_n hx hb dX9_period_46 rfl (lv_at hl 1 rfl) ?_
          obtain ⟨g_47, hM⟩ := gd_some hM
          refine w_lald cx hP 7 rfl g_47 dX9_period_47 ?_
          refine lv_aload_n hx hb dX9_period_48 rfl (lv_at hl 3 rfl) ?_
          refine w_get cx hP 0 9 20 rfl rfl (by decide) m_664 rfl rfl dX9_period_49 ?_
          refine lv_iload_n hx hb dX9_period_52 rfl (lv_at hl 1 rfl) ?_
          obtain ⟨g_53, hM⟩ := gd_some hM
          refine w_lald cx hP 8 rfl g_53 dX9_period_53 ?_
          refine lv_ladd hx hb dX9_period_54 ?_
          refine lv_lconst (v := (0 : Int64)) hx hb dX9_period_55 (by decide) ?_
          refine W.lcmp hx hb dX9_period_56 ?_
          obtain ⟨j_57, hB, hM⟩ := bd_some hM
          have hJ_57 : ∀ (H : Heap) (locs : List Loc) (ls : Array Slot), va_P (gD g) vwCl [ob h_t 9 [.ref h_t_now, .ref h_t_read, .ref h_t_past, .int t_saved, .ref h_t_text, .int t_letters, .int t_stage, .ref h_t_part, .int q_3.1, .ref h_t_matrix, .ref h_t_power, .ref h_t_product, .ref h_t_poly, .ref h_t_old, .ref h_t_step, .ref h_t_column, .ref h_t_moved, .ref h_t_traces, .ref h_t_signed, .ref h_t_plus, .ref h_t_minus, .ref h_t_walk], aI g h_t_now 29 a_t_now, aJ g h_t_matrix 324 q_3.2.1, aJ g h_t_power 324 q_3.2.2.1, aJ g h_t_product 324 q_3.2.2.2.1, aJ g h_t_traces 19 q_3.2.2.2.2.1, aJ g h_t_signed 19 q_3.2.2.2.2.2.1, aJ g h_t_plus 19 q_3.2.2.2.2.2.2.1, aJ g h_t_minus 19 q_3.2.2.2.2.2.2.2] H → va_D A [ob h_t 9 [.ref h_t_now, .ref h_t_read, .ref h_t_past, .int t_saved, .ref h_t_text, .int t_letters, .int t_stage, .ref h_t_part, .int q_3.1, .ref h_t_matrix, .ref h_t_power, .ref h_t_product, .ref h_t_poly, .ref h_t_old, .ref h_t_step, .ref h_t_column, .ref h_t_moved, .ref h_t_traces, .ref h_t_signed, .ref h_t_plus, .ref h_t_minus, .ref h_t_walk], aI g h_t_now 29 a_t_now, aJ g h_t_matrix 324 q_3.2.1, aJ g h_t_power 324 q_3.2.2.1, aJ g h_t_product 324 q_3.2.2.2.1, aJ g h_t_traces 19 q_3.2.2.2.2.1, aJ g h_t_signed 19 q_3.2.2.2.2.2.1, aJ g h_t_plus 19 q_3.2.2.2.2.2.2.1, aJ g h_t_minus 19 q_3.2.2.2.2.2.2.2] → va_S A s.heap H locs → lv_has ls 6 [(2, .int z_10.1), (0, .ref h_t)] → W p l e (rmv 5 121) s m args below meth c H locs 0 0 Q (F0 m 65 ls [.int j_57]) := by
            intro H locs ls hP hD hS hl
            refine lv_istore_n (lv' := [(1, .int j_57), (2, .int z_10.1), (0, .ref h_t)]) hx hb dX9_period_65 rfl hl (by decide) rfl (fun ls hl => ?_)
            refine lv_iinc (v := z_10.1 + (nI 1)) (lv' := [(2, .int (z_10.1 + (nI 1))), (1, .int j_57), (0, .ref h_t)]) hx hb dX9_period_66 hl (k := 1) rfl (congrArg (fun q => z_10.1 + q) (show Int32.ofInt (1) = (nI 1) by decide)) (by decide) rfl (fun ls hl => ?_)
            refine lv_goto (tgt := 10) hx hb dX9_period_69 (by decide) ?_
            obtain rfl := Option.some.inj hM
            exact ih _ hX _ _ _ hP hD hS (lv_sub hl [0, 1, 2] rfl)
          clear hM
          have hM := hB
          clear hB
          refine lv_if_le (tgt := 64) hx hb dX9_period_57 (by decide) (fun c_57 => ?_) (fun c_57 => ?_)
          · have hM := if_t hM c_57
            refine lv_iload_n hx hb dX9_period_64 rfl (lv_at hl 2 rfl) ?_
            obtain rfl := Option.some.inj hM
            exact hJ_57 _ _ _ hP hD hS (lv_sub hl [1, 3] rfl)
          · have hM := if_f hM c_57
            refine lv_iload_n hx hb dX9_period_60 rfl (lv_at hl 0 rfl) ?_
            refine lv_goto (tgt := 65) hx hb dX9_period_61 (by decide) ?_
            obtain rfl := Option.some.inj hM
            exact hJ_57 _ _ _ hP hD hS (lv_sub hl [1, 3] rfl)
        clear hM
        have hL_21 : ∀ (n : Nat) (z_21 : Int32 × Int32), it b_X9_period_21 n z_21 = some r_21 → ∀ (H : Heap) (locs : List Loc) (ls : Array Slot), va_P (gD g) vwCl [ob h_t 9 [.ref h_t_now, .ref h_t_read, .ref h_t_past, .int t_saved, .ref h_t_text, .int t_letters, .int t_stage, .ref h_t_part, .int q_3.1, .ref h_t_matrix, .ref h_t_power, .ref h_t_product, .ref h_t_poly, .ref h_t_old, .ref h_t_step, .ref h_t_column, .ref h_t_moved, .ref h_t_traces, .ref h_t_signed, .ref h_t_plus, .ref h_t_minus, .ref h_t_walk], aI g h_t_now 29 a_t_now, aJ g h_t_matrix 324 q_3.2.1, aJ g h_t_power 324 q_3.2.2.1, aJ g h_t_product 324 q_3.2.2.2.1, aJ g h_t_traces 19 q_3.2.2.2.2.1, aJ g h_t_signed 19 q_3.2.2.2.2.2.1, aJ g h_t_plus 19 q_3.2.2.2.2.2.2.1, aJ g h_t_minus 19 q_3.2.2.2.2.2.2.2] H → va_D A [ob h_t 9 [.ref h_t_now, .ref h_t_read, .ref h_t_past, .int t_saved, .ref h_t_text, .int t_letters, .int t_stage, .ref h_t_part, .int q_3.1, .ref h_t_matrix, .ref h_t_power, .ref h_t_product, .ref h_t_poly, .ref h_t_old, .ref h_t_step, .ref h_t_column, .ref h_t_moved, .ref h_t_traces, .ref h_t_signed, .ref h_t_plus, .ref h_t_minus, .ref h_t_walk], aI g h_t_now 29 a_t_now, aJ g h_t_matrix 324 q_3.2.1, aJ g h_t_power 324 q_3.2.2.1, aJ g h_t_product 324 q_3.2.2.2.1, aJ g h_t_traces 19 q_3.2.2.2.2.1, aJ g h_t_signed 19 q_3.2.2.2.2.2.1, aJ g h_t_plus 19 q_3.2.2.2.2.2.2.1, aJ g h_t_minus 19 q_3.2.2.2.2.2.2.2] → va_S A s.heap H locs → lv_has ls 6 [(4, .int z_21.1), (3, .int z_21.2), (2, .int z_10.1), (1, .int z_10.2), (0, .ref h_t)] → W p l e (rmv 5 121) s m args below meth c H locs 0 0 Q (F0 m 21 ls []) := by
          intro n
          induction n with
          | zero => intro z_21 hn; exact (it_zero hn).elim
          | succ n ih =>
            intro z_21 hn H locs ls hP hD hS hl
            obtain ⟨x, hM, hX⟩ := it_succ hn
            clear hn
            refine lv_iload hx hb dX9_period_21 (lv_at hl 0 rfl) ?_
            refine lv_if_eq (tgt := 42) hx hb dX9_period_23 (by decide) (fun c_23 => ?_) (fun c_23 => ?_)
            · have hM := if_t hM c_23
              obtain rfl := Option.some.inj hM
              obtain rfl : _ = r_21 := hX
              exact hE_21_0 _ _ _ hP hD hS (lv_sub hl [1, 2, 3, 4] rfl)
            · have hM := if_f hM c_23
              refine lv_iload_n hx hb dX9_period_26 rfl (lv_at hl 1 rfl) ?_
              refine lv_iload hx hb dX9_period_27 (lv_at hl 0 rfl) ?_
              obtain ⟨g_29, hM⟩ := gd_some hM
              refine lv_irem hx hb dX9_period_29 (nz_ne g_29) ?_
              refine lv_topi (fun x_30 ex_30 => ?_)
              have hM := nm_some hM x_30 ex_30
              refine lv_istore (lv' := [(5, .int x_30), (4, .int z_21.1), (3, .int z_21.2), (2, .int z_10.1), (1, .int z_10.2), (0, .ref h_t)]) hx hb dX9_period_30 hl (by decide) rfl (fun ls hl => ?_)
              refine lv_iload hx hb dX9_period_32 (lv_at hl 1 rfl) ?_
              refine lv_istore_n (lv' := [(3, .int z_21.1), (5, .int x_30), (4, .int z_21.1), (2, .int z_10.1), (1, .int z_10.2), (0, .ref h_t)]) hx hb dX9_period_34 rfl hl (by decide) rfl (fun ls hl => ?_)
              refine lv_iload hx hb dX9_period_35 (lv_at hl 1 rfl) ?_
              refine lv_istore (lv' := [(4, .int x_30), (3, .int z_21.1), (5, .int x_30), (2, .int z_10.1), (1, .int z_10.2), (0, .ref h_t)]) hx hb dX9_period_37 hl (by decide) rfl (fun ls hl => ?_)
              refine lv_goto (tgt := 21) hx hb dX9_period_39 (by decide) ?_
              obtain rfl := Option.some.inj hM
              exact ih _ hX _ _ _ hP hD hS (lv_sub hl [0, 1, 3, 4, 5] rfl)
        exact hL_21 n _ hn _ _ _ hP hD hS (lv_sub hl [0, 1, 2, 3, 4] rfl)
  exact hL_10 n _ hn _ _ _ hP hD hS (lv_sub hl [0, 1, 2] rfl)
noncomputable def b_X9_isFirst_33 (p1 : Int32) (a_t_walk : Nat → Int32) (z_21 : Int32 × Int32) : Int32 → Option ((Int32) ⊕ ((Int32))) := fun z_33 =>
  if p1 ≤ z_33 then some (.inr z_33) else gd (inb z_33 5) (gd (nz p1) (gd (inb ((z_33 + z_21.1) - (z_33 + z_21.1) / p1 * p1) 5) (if (a_t_walk z_33.toNatClampNeg) = (a_t_walk ((z_33 + z_21.1) - (z_33 + z_21.1) / p1 * p1).toNatClampNeg) then some (.inl (z_33 + (nI 1))) else some (.inr z_33))))
noncomputable def b_X9_isFirst_21 (p1 : Int32) (a_t_walk : Nat → Int32) : Int32 × Int32 → Option ((Int32 × Int32) ⊕ ((Int32))) := fun z_21 =>
  if p1 ≤ z_21.1 then some (.inr z_21.2) else if z_21.2 = 0 then some (.inr z_21.2) else bd (wh (b_X9_isFirst_33 p1 a_t_walk z_21) (nI 0)) (fun (r_33 : Int32) => bd (if p1 ≤ r_33 then some (nI 0) else gd (inb r_33 5) (gd (nz p1) (gd (inb ((r_33 + z_21.1) - (r_33 + z_21.1) / p1 * p1) 5) (if (a_t_walk ((r_33 + z_21.1) - (r_33 + z_21.1) / p1 * p1).toNatClampNeg) ≤ (a_t_walk r_33.toNatClampNeg) then some (nI 0) else some (nI 1))))) (fun (j_69 : Int32) => some (.inl (z_21.1 + (nI 1), j_69))))
noncomputable def f_X9_isFirst (p1 : Int32) (t_saved : Int32) (t_letters : Int32) (t_stage : Int32) (t_size : Int32) (a_t_now : Nat → Int32) (a_t_walk : Nat → Int32) : Option (Int32) :=
  gd (inb (p1 - (nI 1)) 5) (gd (inb (nI 0) 5) (bd (f_X9_isNext (a_t_walk (p1 - (nI 1)).toNatClampNeg) (a_t_walk (nI 0).toNatClampNeg) t_saved t_letters t_stage t_size a_t_now) (fun (q_15 : Int32) => bd (wh (b_X9_isFirst_21 p1 a_t_walk) ((nI 1), q_15)) (fun (r_21 : Int32) => gd (bq r_21) (some r_21)))))
theorem yq_X9_isFirst : yq yX9_isFirst 1 := by unfold yq; decide +kernel
set_option maxHeartbeats 4000000 in
set_option maxRecDepth 100000 in
theorem c_X9_isFirst (g : GG) (l : Launch) (h_t : Nat) (h_t_now : Nat) (h_t_read : Nat) (h_t_past : Nat) (h_t_text : Nat) (h_t_part : Nat) (h_t_matrix : Nat) (h_t_power : Nat) (h_t_product : Nat) (h_t_poly : Nat) (h_t_old : Nat) (h_t_step : Nat) (h_t_column : Nat) (h_t_moved : Nat) (h_t_traces : Nat) (h_t_signed : Nat) (h_t_plus : Nat) (h_t_minus : Nat) (h_t_walk : Nat) (p1 : Int32) (t_saved : Int32) (t_letters : Int32) (t_stage : Int32) (t_size : Int32) (a_t_now : Nat → Int32) (a_t_walk : Nat → Int32) {R : Int32} (hM : f_X9_isFirst p1 t_saved t_letters t_stage t_size a_t_now a_t_walk = some R) : CT g l yX9_isFirst cX9_isFirst 5 (some .boolean) 2 44 [.ref h_t, .int p1] [ob h_t 9 [.ref h_t_now, .ref h_t_read, .ref h_t_past, .int t_saved, .ref h_t_text, .int t_letters, .int t_stage, .ref h_t_part, .int t_size, .ref h_t_matrix, .ref h_t_power, .ref h_t_product, .ref h_t_poly, .ref h_t_old, .ref h_t_step, .ref h_t_column, .ref h_t_moved, .ref h_t_traces, .ref h_t_signed, .ref h_t_plus, .ref h_t_minus, .ref h_t_walk], aI g h_t_now 29 a_t_now, aI g h_t_walk 5 a_t_walk] [ob h_t 9 [.ref h_t_now, .ref h_t_read, .ref h_t_past, .int t_saved, .ref h_t_text, .int t_letters, .int t_stage, .ref h_t_part, .int t_size, .ref h_t_matrix, .ref h_t_power, .ref h_t_product, .ref h_t_poly, .ref h_t_old, .ref h_t_step, .ref h_t_column, .ref h_t_moved, .ref h_t_traces, .ref h_t_signed, .ref h_t_plus, .ref h_t_minus, .ref h_t_walk], aI g h_t_now 29 a_t_now, aI g h_t_walk 5 a_t_walk] (some (.int R)) := by
  refine ct_z (by decide +kernel) (Nat.le_of_ble_eq_true rfl) ?_
  intro p e s m args below meth c Q A ls cx hP hD hA hl hfin
  obtain ⟨hx, hb, hml, hown, hts, hK⟩ := id cx
  have hl : lv_has ls 5 [(0, .ref h_t), (1, .int p1)] := hl
  have hS : va_S A s.heap s.heap [] := va_S.rf
  refine lv_aload_n hx hb dX9_isFirst_0 rfl (lv_at hl 0 rfl) ?_
  refine lv_aload_n hx hb dX9_isFirst_1 rfl (lv_at hl 0 rfl) ?_
  refine w_get cx hP 0 9 21 rfl rfl (by decide) m_665 rfl rfl dX9_isFirst_2 ?_
  refine lv_iload_n hx hb dX9_isFirst_5 rfl (lv_at hl 1 rfl) ?_
  refine lv_iconst (v := (nI 1)) hx hb dX9_isFirst_6 (by decide) ?_
  refine lv_isub hx hb dX9_isFirst_7 ?_
  obtain ⟨g_8, hM⟩ := gd_some hM
  refine w_iald cx hP 2 rfl g_8 dX9_isFirst_8 ?_
  refine lv_aload_n hx hb dX9_isFirst_9 rfl (lv_at hl 0 rfl) ?_
  refine w_get cx hP 0 9 21 rfl rfl (by decide) m_665 rfl rfl dX9_isFirst_10 ?_
  refine lv_iconst (v := (nI 0)) hx hb dX9_isFirst_13 (by decide) ?_
  obtain ⟨g_14, hM⟩ := gd_some hM
  refine w_iald cx hP 2 rfl g_14 dX9_isFirst_14 ?_
  obtain ⟨q_15, hc_15, hM⟩ := bd_some hM
  refine w_callV cx hP hD hS hA (c_X9_isNext g l h_t h_t_now h_t_read h_t_past h_t_text h_t_part h_t_matrix h_t_power h_t_product h_t_poly h_t_old h_t_step h_t_column h_t_moved h_t_traces h_t_signed h_t_plus h_t_minus h_t_walk (a_t_walk (p1 - (nI 1)).toNatClampNeg) (a_t_walk (nI 0).toNatClampNeg) t_saved t_letters t_stage t_size a_t_now hc_15) [0, 1] rfl (by decide) rfl [ob h_t 9 [.ref h_t_now, .ref h_t_read, .ref h_t_past, .int t_saved, .ref h_t_text, .int t_letters, .int t_stage, .ref h_t_part, .int t_size, .ref h_t_matrix, .ref h_t_power, .ref h_t_product, .ref h_t_poly, .ref h_t_old, .ref h_t_step, .ref h_t_column, .ref h_t_moved, .ref h_t_traces, .ref h_t_signed, .ref h_t_plus, .ref h_t_minus, .ref h_t_walk], aI g h_t_now 29 a_t_now, aI g h_t_walk 5 a_t_walk] rfl 0 9 rfl rfl yq_X9_isNext rfl m_790 m_792 m_23 m_51 m_793 ⟨Nat.le_of_ble_eq_true rfl, Nat.le_of_ble_eq_true rfl⟩ rfl rfl hl.1 (Nat.le_of_ble_eq_true rfl) dX9_isFirst_15 ⟨Nat.le_refl 0, Nat.le_refl 0⟩ rfl (fun H locs hP hD hS => ?_)
  refine lv_istore_n (lv' := [(2, .int q_15), (0, .ref h_t), (1, .int p1)]) hx hb dX9_isFirst_18 rfl hl (by decide) rfl (fun ls hl => ?_)
  refine lv_iconst (v := (nI 1)) hx hb dX9_isFirst_19 (by decide) ?_
  refine lv_istore_n (lv' := [(3, .int (nI 1)), (2, .int q_15), (0, .ref h_t), (1, .int p1)]) hx hb dX9_isFirst_20 rfl hl (by decide) rfl (fun ls hl => ?_)
  obtain ⟨r_21, hw, hM⟩ := bd_some hM
  obtain ⟨n, hn⟩ := wh_some hw
  clear hw
  have hE_21_0 : ∀ (H : Heap) (locs : List Loc) (ls : Array Slot), va_P (gD g) vwCl [ob h_t 9 [.ref h_t_now, .ref h_t_read, .ref h_t_past, .int t_saved, .ref h_t_text, .int t_letters, .int t_stage, .ref h_t_part, .int t_size, .ref h_t_matrix, .ref h_t_power, .ref h_t_product, .ref h_t_poly, .ref h_t_old, .ref h_t_step, .ref h_t_column, .ref h_t_moved, .ref h_t_traces, .ref h_t_signed, .ref h_t_plus, .ref h_t_minus, .ref h_t_walk], aI g h_t_now 29 a_t_now, aI g h_t_walk 5 a_t_walk] H → va_D A [ob h_t 9 [.ref h_t_now, .ref h_t_read, .ref h_t_past, .int t_saved, .ref h_t_text, .int t_letters, .int t_stage, .ref h_t_part, .int t_size, .ref h_t_matrix, .ref h_t_power, .ref h_t_product, .ref h_t_poly, .ref h_t_old, .ref h_t_step, .ref h_t_column, .ref h_t_moved, .ref h_t_traces, .ref h_t_signed, .ref h_t_plus, .ref h_t_minus, .ref h_t_walk], aI g h_t_now 29 a_t_now, aI g h_t_walk 5 a_t_walk] → va_S A s.heap H locs → lv_has ls 5 [(2, .int r_21)] → W p l e (rmv 2 44) s m args below meth c H locs 0 0 Q (F0 m 105 ls []) := by
    intro H locs ls hP hD hS hl
    refine lv_iload_n hx hb dX9_isFirst_105 rfl (lv_at hl 0 rfl) ?_
    obtain ⟨hz, hM⟩ := gd_some hM
    obtain rfl := Option.some.inj hM
    exact hfin 106 _ _ _ dX9_isFirst_106 hz hP hD hS
  clear hM
  have hL_21 : ∀ (n : Nat) (z_21 : Int32 × Int32), it (b_X9_isFirst_21 p1 a_t_walk) n z_21 = some r_21 → ∀ (H : Heap) (locs : List Loc) (ls : Array Slot), va_P (gD g) vwCl [ob h_t 9 [.ref h_t_now, .ref h_t_read, .ref h_t_past, .int t_saved, .ref h_t_text, .int t_letters, .int t_stage, .ref h_t_part, .int t_size, .ref h_t_matrix, .ref h_t_power, .ref h_t_product, .ref h_t_poly, .ref h_t_old, .ref h_t_step, .ref h_t_column, .ref h_t_moved, .ref h_t_traces, .ref h_t_signed, .ref h_t_plus, .ref h_t_minus, .ref h_t_walk], aI g h_t_now 29 a_t_now, aI g h_t_walk 5 a_t_walk] H → va_D A [ob h_t 9 [.ref h_t_now, .ref h_t_read, .ref h_t_past, .int t_saved, .ref h_t_text, .int t_letters, .int t_stage, .ref h_t_part, .int t_size, .ref h_t_matrix, .ref h_t_power, .ref h_t_product, .ref h_t_poly, .ref h_t_old, .ref h_t_step, .ref h_t_column, .ref h_t_moved, .ref h_t_traces, .ref h_t_signed, .ref h_t_plus, .ref h_t_minus, .ref h_t_walk], aI g h_t_now 29 a_t_now, aI g h_t_walk 5 a_t_walk] → va_S A s.heap H locs → lv_has ls 5 [(3, .int z_21.1), (2, .int z_21.2), (0, .ref h_t), (1, .int p1)] → W p l e (rmv 2 44) s m args below meth c H locs 0 0 Q (F0 m 21 ls []) := by
    intro n
    induction n with
    | zero => intro z_21 hn; exact (it_zero hn).elim
    | succ n ih =>
      intro z_21 hn H locs ls hP hD hS hl
      obtain ⟨x, hM, hX⟩ := it_succ hn
      clear hn
      refine lv_iload_n hx hb dX9_isFirst_21 rfl (lv_at hl 0 rfl) ?_
      refine lv_iload_n hx hb dX9_isFirst_22 rfl (lv_at hl 3 rfl) ?_
      refine lv_icmp_ge (tgt := 105) hx hb dX9_isFirst_23 (by decide) (fun c_23 => ?_) (fun c_23 => ?_)
      · have hM := if_t hM c_23
        obtain rfl := Option.some.inj hM
        obtain rfl : _ = r_21 := hX
        exact hE_21_0 _ _ _ hP hD hS (lv_sub hl [1] rfl)
      · have hM := if_f hM c_23
        refine lv_iload_n hx hb dX9_isFirst_26 rfl (lv_at hl 1 rfl) ?_
        refine lv_if_eq (tgt := 105) hx hb dX9_isFirst_27 (by decide) (fun c_27 => ?_) (fun c_27 => ?_)
        · have hM := if_t hM c_27
          obtain rfl := Option.some.inj hM
          obtain rfl : _ = r_21 := hX
          exact hE_21_0 _ _ _ hP hD hS (lv_sub hl [1] rfl)
        · have hM := if_f hM c_27
          refine lv_iconst (v := (nI 0)) hx hb dX9_isFirst_30 (by decide) ?_
          refine lv_istore (lv' := [(4, .int (nI 0)), (3, .int z_21.1), (2, .int z_21.2), (0, .ref h_t), (1, .int p1)]) hx hb dX9_isFirst_31 hl (by decide) rfl (fun ls hl => ?_)
          obtain ⟨r_33, hw, hM⟩ := bd_some hM
          obtain ⟨n, hn⟩ := wh_some hw
          clear hw
          have hE_33_0 : ∀ (H : Heap) (locs : List Loc) (ls : Array Slot), va_P (gD g) vwCl [ob h_t 9 [.ref h_t_now, .ref h_t_read, .ref h_t_past, .int t_saved, .ref h_t_text, .int t_letters, .int t_stage, .ref h_t_part, .int t_size, .ref h_t_matrix, .ref h_t_power, .ref h_t_product, .ref h_t_poly, .ref h_t_old, .ref h_t_step, .ref h_t_column, .ref h_t_moved, .ref h_t_traces, .ref h_t_signed, .ref h_t_plus, .ref h_t_minus, .ref h_t_walk], aI g h_t_now 29 a_t_now, aI g h_t_walk 5 a_t_walk] H → va_D A [ob h_t 9 [.ref h_t_now, .ref h_t_read, .ref h_t_past, .int t_saved, .ref h_t_text, .int t_letters, .int t_stage, .ref h_t_part, .int t_size, .ref h_t_matrix, .ref h_t_power, .ref h_t_product, .ref h_t_poly, .ref h_t_old, .ref h_t_step, .ref h_t_column, .ref h_t_moved, .ref h_t_traces, .ref h_t_signed, .ref h_t_plus, .ref h_t_minus, .ref h_t_walk], aI g h_t_now 29 a_t_now, aI g h_t_walk 5 a_t_walk] → va_S A s.heap H locs → lv_has ls 5 [(4, .int r_33), (3, .int z_21.1), (0, .ref h_t), (1, .int p1)] → W p l e (rmv 2 44) s m args below meth c H locs 0 0 Q (F0 m 66 ls []) := by
            intro H locs ls hP hD hS hl
            refine lv_iload hx hb dX9_isFirst_66 (lv_at hl 0 rfl) ?_
            refine lv_iload_n hx hb dX9_isFirst_68 rfl (lv_at hl 3 rfl) ?_
            obtain ⟨j_69, hB, hM⟩ := bd_some hM
            have hJ_69 : ∀ (H : Heap) (locs : List Loc) (ls : Array Slot), va_P (gD g) vwCl [ob h_t 9 [.ref h_t_now, .ref h_t_read, .ref h_t_past, .int t_saved, .ref h_t_text, .int t_letters, .int t_stage, .ref h_t_part, .int t_size, .ref h_t_matrix, .ref h_t_power, .ref h_t_product, .ref h_t_poly, .ref h_t_old, .ref h_t_step, .ref h_t_column, .ref h_t_moved, .ref h_t_traces, .ref h_t_signed, .ref h_t_plus, .ref h_t_minus, .ref h_t_walk], aI g h_t_now 29 a_t_now, aI g h_t_walk 5 a_t_walk] H → va_D A [ob h_t 9 [.ref h_t_now, .ref h_t_read, .ref h_t_past, .int t_saved, .ref h_t_text, .int t_letters, .int t_stage, .ref h_t_part, .int t_size, .ref h_t_matrix, .ref h_t_power, .ref h_t_product, .ref h_t_poly, .ref h_t_old, .ref h_t_step, .ref h_t_column, .ref h_t_moved, .ref h_t_traces, .ref h_t_signed, .ref h_t_plus, .ref h_t_minus, .ref h_t_walk], aI g h_t_now 29 a_t_now, aI g h_t_walk 5 a_t_walk] → va_S A s.heap H locs → lv_has ls 5 [(3, .int z_21.1), (0, .ref h_t), (1, .int p1)] → W p l e (rmv 2 44) s m args below meth c H locs 0 0 Q (F0 m 98 ls [.int j_69]) := by
              intro H locs ls hP hD hS hl
              refine lv_istore_n (lv' := [(2, .int j_69), (3, .int z_21.1), (0, .ref h_t), (1, .int p1)]) hx hb dX9_isFirst_98 rfl hl (by decide) rfl (fun ls hl => ?_)
              refine lv_iinc (v := z_21.1 + (nI 1)) (lv' := [(3, .int (z_21.1 + (nI 1))), (2, .int j_69), (0, .ref h_t), (1, .int p1)]) hx hb dX9_isFirst_99 hl (k := 1) rfl (congrArg (fun q => z_21.1 + q) (show Int32.ofInt (1) = (nI 1) by decide)) (by decide) rfl (fun ls hl => ?_)
              refine lv_goto (tgt := 21) hx hb dX9_isFirst_102 (by decide) ?_
              obtain rfl := Option.some.inj hM
              exact ih _ hX _ _ _ hP hD hS (lv_sub hl [0, 1, 2, 3] rfl)
            clear hM
            have hM := hB
            clear hB
            refine lv_icmp_ge (tgt := 97) hx hb dX9_isFirst_69 (by decide) (fun c_69 => ?_) (fun c_69 => ?_)
            · have hM := if_t hM c_69
              refine lv_iconst (v := (nI 0)) hx hb dX9_isFirst_97 (by decide) ?_
              obtain rfl := Option.some.inj hM
              exact hJ_69 _ _ _ hP hD hS (lv_sub hl [1, 2, 3] rfl)
            · have hM := if_f hM c_69
              refine lv_aload_n hx hb dX9_isFirst_72 rfl (lv_at hl 2 rfl) ?_
              refine w_get cx hP 0 9 21 rfl rfl (by decide) m_665 rfl rfl dX9_isFirst_73 ?_
              refine lv_iload hx hb dX9_isFirst_76 (lv_at hl 0 rfl) ?_
              obtain ⟨g_78, hM⟩ := gd_some hM
              refine w_iald cx hP 2 rfl g_78 dX9_isFirst_78 ?_
              refine lv_aload_n hx hb dX9_isFirst_79 rfl (lv_at hl 2 rfl) ?_
              refine w_get cx hP 0 9 21 rfl rfl (by decide) m_665 rfl rfl dX9_isFirst_80 ?_
              refine lv_iload hx hb dX9_isFirst_83 (lv_at hl 0 rfl) ?_
              refine lv_iload_n hx hb dX9_isFirst_85 rfl (lv_at hl 1 rfl) ?_
              refine lv_iadd hx hb dX9_isFirst_86 ?_
              refine lv_iload_n hx hb dX9_isFirst_87 rfl (lv_at hl 3 rfl) ?_
              obtain ⟨g_88, hM⟩ := gd_some hM
              refine lv_irem hx hb dX9_isFirst_88 (nz_ne g_88) ?_
              obtain ⟨g_89, hM⟩ := gd_some hM
              refine w_iald cx hP 2 rfl g_89 dX9_isFirst_89 ?_
              refine lv_icmp_ge (tgt := 97) hx hb dX9_isFirst_90 (by decide) (fun c_90 => ?_) (fun c_90 => ?_)
              · have hM := if_t hM c_90
                refine lv_iconst (v := (nI 0)) hx hb dX9_isFirst_97 (by decide) ?_
                obtain rfl := Option.some.inj hM
                exact hJ_69 _ _ _ hP hD hS (lv_sub hl [1, 2, 3] rfl)
              · have hM := if_f hM c_90
                refine lv_iconst (v := (nI 1)) hx hb dX9_isFirst_93 (by decide) ?_
                refine lv_goto (tgt := 98) hx hb dX9_isFirst_94 (by decide) ?_
                obtain rfl := Option.some.inj hM
                exact hJ_69 _ _ _ hP hD hS (lv_sub hl [1, 2, 3] rfl)
          clear hM
          have hL_33 : ∀ (n : Nat) (z_33 : Int32), it (b_X9_isFirst_33 p1 a_t_walk z_21) n z_33 = some r_33 → ∀ (H : Heap) (locs : List Loc) (ls : Array Slot), va_P (gD g) vwCl [ob h_t 9 [.ref h_t_now, .ref h_t_read, .ref h_t_past, .int t_saved, .ref h_t_text, .int t_letters, .int t_stage, .ref h_t_part, .int t_size, .ref h_t_matrix, .ref h_t_power, .ref h_t_product, .ref h_t_poly, .ref h_t_old, .ref h_t_step, .ref h_t_column, .ref h_t_moved, .ref h_t_traces, .ref h_t_signed, .ref h_t_plus, .ref h_t_minus, .ref h_t_walk], aI g h_t_now 29 a_t_now, aI g h_t_walk 5 a_t_walk] H → va_D A [ob h_t 9 [.ref h_t_now, .ref h_t_read, .ref h_t_past, .int t_saved, .ref h_t_text, .int t_letters, .int t_stage, .ref h_t_part, .int t_size, .ref h_t_matrix, .ref h_t_power, .ref h_t_product, .ref h_t_poly, .ref h_t_old, .ref h_t_step, .ref h_t_column, .ref h_t_moved, .ref h_t_traces, .ref h_t_signed, .ref h_t_plus, .ref h_t_minus, .ref h_t_walk], aI g h_t_now 29 a_t_now, aI g h_t_walk 5 a_t_walk] → va_S A s.heap H locs → lv_has ls 5 [(4, .int z_33), (3, .int z_21.1), (0, .ref h_t), (1, .int p1)] → W p l e (rmv 2 44) s m args below meth c H locs 0 0 Q (F0 m 33 ls []) := by
            intro n
            induction n with
            | zero => intro z_33 hn; exact (it_zero hn).elim
            | succ n ih =>
              intro z_33 hn H locs ls hP hD hS hl
              obtain ⟨x, hM, hX⟩ := it_succ hn
              clear hn
              refine lv_iload hx hb dX9_isFirst_33 (lv_at hl 0 rfl) ?_
              refine lv_iload_n hx hb dX9_isFirst_35 rfl (lv_at hl 3 rfl) ?_
              refine lv_icmp_ge (tgt := 66) hx hb dX9_isFirst_36 (by decide) (fun c_36 => ?_) (fun c_36 => ?_)
              · have hM := if_t hM c_36
                obtain rfl := Option.some.inj hM
                obtain rfl : _ = r_33 := hX
                exact hE_33_0 _ _ _ hP hD hS (lv_sub hl [0, 1, 2, 3] rfl)
              · have hM := if_f hM c_36
                refine lv_aload_n hx hb dX9_isFirst_39 rfl (lv_at hl 2 rfl) ?_
                refine w_get cx hP 0 9 21 rfl rfl (by decide) m_665 rfl rfl dX9_isFirst_40 ?_
                refine lv_iload hx hb dX9_isFirst_43 (lv_at hl 0 rfl) ?_
                obtain ⟨g_45, hM⟩ := gd_some hM
                refine w_iald cx hP 2 rfl g_45 dX9_isFirst_45 ?_
                refine lv_aload_n hx hb dX9_isFirst_46 rfl (lv_at hl 2 rfl) ?_
                refine w_get cx hP 0 9 21 rfl rfl (by decide) m_665 rfl rfl dX9_isFirst_47 ?_
                refine lv_iload hx hb dX9_isFirst_50 (lv_at hl 0 rfl) ?_
                refine lv_iload_n hx hb dX9_isFirst_52 rfl (lv_at hl 1 rfl) ?_
                refine lv_iadd hx hb dX9_isFirst_53 ?_
                refine lv_iload_n hx hb dX9_isFirst_54 rfl (lv_at hl 3 rfl) ?_
                obtain ⟨g_55, hM⟩ := gd_some hM
                refine lv_irem hx hb dX9_isFirst_55 (nz_ne g_55) ?_
                obtain ⟨g_56, hM⟩ := gd_some hM
                refine w_iald cx hP 2 rfl g_56 dX9_isFirst_56 ?_
                refine lv_icmp_ne (tgt := 66) hx hb dX9_isFirst_57 (by decide) (fun c_57 => ?_) (fun c_57 => ?_)
                · have hM := if_f hM c_57
                  obtain rfl := Option.some.inj hM
                  obtain rfl : _ = r_33 := hX
                  exact hE_33_0 _ _ _ hP hD hS (lv_sub hl [0, 1, 2, 3] rfl)
                · have hM := if_t hM c_57
                  refine lv_iinc (v := z_33 + (nI 1)) (lv' := [(4, .int (z_33 + (nI 1))), (3, .int z_21.1), (0, .ref h_t), (1, .int p1)]) hx hb dX9_isFirst_60 hl (k := 0) rfl (congrArg (fun q => z_33 + q) (show Int32.ofInt (1) = (nI 1) by decide)) (by decide) rfl (fun ls hl => ?_)
                  refine lv_goto (tgt := 33) hx hb dX9_isFirst_63 (by decide) ?_
                  obtain rfl := Option.some.inj hM
                  exact ih _ hX _ _ _ hP hD hS (lv_sub hl [0, 1, 2, 3] rfl)
          exact hL_33 n _ hn _ _ _ hP hD hS (lv_sub hl [0, 1, 3, 4] rfl)
  exact hL_21 n _ hn _ _ _ hP hD hS (lv_sub hl [0, 1, 2, 3] rfl)
noncomputable def b_X9_finds_12 (p1 : Int32) (t_saved : Int32) (t_letters : Int32) (t_stage : Int32) (t_size : Int32) (a_t_now : Nat → Int32) : Int32 × Int32 × (Nat → Int32) → Option ((Int32 × Int32 × (Nat → Int32)) ⊕ ((Nat → Int32) ⊕ (Nat → Int32))) := fun z_12 =>
  if z_12.1 < 0 then some (.inr (.inr z_12.2.2)) else gd (inb z_12.1 5) (gd (inb z_12.1 5) (gd (inb z_12.1 5) (gd (inb (nI 1) 29) (if ((upd z_12.2.2 z_12.1.toNatClampNeg ((z_12.2.2 z_12.1.toNatClampNeg) + (nI 1))) z_12.1.toNatClampNeg) = ((nI 2) * (a_t_now (nI 1).toNatClampNeg)) then nm (z_12.1 + (nI 4294967295)) (fun (x_46 : Int32) => some (.inl (x_46, z_12.2.1, upd z_12.2.2 z_12.1.toNatClampNeg ((z_12.2.2 z_12.1.toNatClampNeg) + (nI 1))))) else if z_12.1 = 0 then if (p1 - (nI 1)) ≤ z_12.1 then bd (f_X9_isFirst p1 t_saved t_letters t_stage t_size a_t_now (upd z_12.2.2 z_12.1.toNatClampNeg ((z_12.2.2 z_12.1.toNatClampNeg) + (nI 1)))) (fun (q_111 : Int32) => if q_111 = 0 then some (.inl (z_12.1, z_12.2.1, upd z_12.2.2 z_12.1.toNatClampNeg ((z_12.2.2 z_12.1.toNatClampNeg) + (nI 1)))) else if z_12.2.1 = 0 then some (.inr (.inl (upd z_12.2.2 z_12.1.toNatClampNeg ((z_12.2.2 z_12.1.toNatClampNeg) + (nI 1))))) else nm (z_12.2.1 + (nI 4294967295)) (fun (x_123 : Int32) => some (.inl (z_12.1, x_123, upd z_12.2.2 z_12.1.toNatClampNeg ((z_12.2.2 z_12.1.toNatClampNeg) + (nI 1)))))) else gd (inb (nI 0) 5) (gd (inb (z_12.1 + (nI 1)) 5) (some (.inl (z_12.1 + (nI 1), z_12.2.1, upd (upd z_12.2.2 z_12.1.toNatClampNeg ((z_12.2.2 z_12.1.toNatClampNeg) + (nI 1))) (z_12.1 + (nI 1)).toNatClampNeg (((upd z_12.2.2 z_12.1.toNatClampNeg ((z_12.2.2 z_12.1.toNatClampNeg) + (nI 1))) (nI 0).toNatClampNeg) - (nI 1)))))) else gd (inb (z_12.1 - (nI 1)) 5) (gd (inb z_12.1 5) (bd (f_X9_isNext ((upd z_12.2.2 z_12.1.toNatClampNeg ((z_12.2.2 z_12.1.toNatClampNeg) + (nI 1))) (z_12.1 - (nI 1)).toNatClampNeg) ((upd z_12.2.2 z_12.1.toNatClampNeg ((z_12.2.2 z_12.1.toNatClampNeg) + (nI 1))) z_12.1.toNatClampNeg) t_saved t_letters t_stage t_size a_t_now) (fun (q_74 : Int32) => if q_74 = 0 then some (.inl (z_12.1, z_12.2.1, upd z_12.2.2 z_12.1.toNatClampNeg ((z_12.2.2 z_12.1.toNatClampNeg) + (nI 1)))) else if (p1 - (nI 1)) ≤ z_12.1 then bd (f_X9_isFirst p1 t_saved t_letters t_stage t_size a_t_now (upd z_12.2.2 z_12.1.toNatClampNeg ((z_12.2.2 z_12.1.toNatClampNeg) + (nI 1)))) (fun (q_111 : Int32) => if q_111 = 0 then some (.inl (z_12.1, z_12.2.1, upd z_12.2.2 z_12.1.toNatClampNeg ((z_12.2.2 z_12.1.toNatClampNeg) + (nI 1)))) else if z_12.2.1 = 0 then some (.inr (.inl (upd z_12.2.2 z_12.1.toNatClampNeg ((z_12.2.2 z_12.1.toNatClampNeg) + (nI 1))))) else nm (z_12.2.1 + (nI 4294967295)) (fun (x_123 : Int32) => some (.inl (z_12.1, x_123, upd z_12.2.2 z_12.1.toNatClampNeg ((z_12.2.2 z_12.1.toNatClampNeg) + (nI 1)))))) else gd (inb (nI 0) 5) (gd (inb (z_12.1 + (nI 1)) 5) (some (.inl (z_12.1 + (nI 1), z_12.2.1, upd (upd z_12.2.2 z_12.1.toNatClampNeg ((z_12.2.2 z_12.1.toNatClampNeg) + (nI 1))) (z_12.1 + (nI 1)).toNatClampNeg (((upd z_12.2.2 z_12.1.toNatClampNeg ((z_12.2.2 z_12.1.toNatClampNeg) + (nI 1))) (nI 0).toNatClampNeg) - (nI 1)))))))))))))
noncomputable def f_X9_finds (p1 : Int32) (p2 : Int32) (t_saved : Int32) (t_letters : Int32) (t_stage : Int32) (t_size : Int32) (a_t_now : Nat → Int32) (a_t_walk : Nat → Int32) : Option (Int32 × (Nat → Int32)) :=
  gd (inb (nI 0) 5) (bd (wh (b_X9_finds_12 p1 t_saved t_letters t_stage t_size a_t_now) ((nI 0), p2, upd a_t_walk (nI 0).toNatClampNeg (nI 4294967295))) (fun (r_12 : (Nat → Int32) ⊕ (Nat → Int32)) => ex2 r_12 (fun (r_12_0 : Nat → Int32) => some ((nI 1), r_12_0)) (fun (r_12_1 : Nat → Int32) => some ((nI 0), r_12_1))))
theorem yq_X9_finds : yq yX9_finds 2 := by unfold yq; decide +kernel
set_option maxHeartbeats 4000000 in
set_option maxRecDepth 100000 in
theorem c_X9_finds (g : GG) (l : Launch) (h_t : Nat) (h_t_now : Nat) (h_t_read : Nat) (h_t_past : Nat) (h_t_text : Nat) (h_t_part : Nat) (h_t_matrix : Nat) (h_t_power : Nat) (h_t_product : Nat) (h_t_poly : Nat) (h_t_old : Nat) (h_t_step : Nat) (h_t_column : Nat) (h_t_moved : Nat) (h_t_traces : Nat) (h_t_signed : Nat) (h_t_plus : Nat) (h_t_minus : Nat) (h_t_walk : Nat) (p1 : Int32) (p2 : Int32) (t_saved : Int32) (t_letters : Int32) (t_stage : Int32) (t_size : Int32) (a_t_now : Nat → Int32) (a_t_walk : Nat → Int32) {R : Int32 × (Nat → Int32)} (hM : f_X9_finds p1 p2 t_saved t_letters t_stage t_size a_t_now a_t_walk = some R) : CT g l yX9_finds cX9_finds 5 (some .boolean) 3 68 [.ref h_t, .int p1, .int p2] [ob h_t 9 [.ref h_t_now, .ref h_t_read, .ref h_t_past, .int t_saved, .ref h_t_text, .int t_letters, .int t_stage, .ref h_t_part, .int t_size, .ref h_t_matrix, .ref h_t_power, .ref h_t_product, .ref h_t_poly, .ref h_t_old, .ref h_t_step, .ref h_t_column, .ref h_t_moved, .ref h_t_traces, .ref h_t_signed, .ref h_t_plus, .ref h_t_minus, .ref h_t_walk], aI g h_t_now 29 a_t_now, aI g h_t_walk 5 a_t_walk] [ob h_t 9 [.ref h_t_now, .ref h_t_read, .ref h_t_past, .int t_saved, .ref h_t_text, .int t_letters, .int t_stage, .ref h_t_part, .int t_size, .ref h_t_matrix, .ref h_t_power, .ref h_t_product, .ref h_t_poly, .ref h_t_old, .ref h_t_step, .ref h_t_column, .ref h_t_moved, .ref h_t_traces, .ref h_t_signed, .ref h_t_plus, .ref h_t_minus, .ref h_t_walk], aI g h_t_now 29 a_t_now, aI g h_t_walk 5 R.2] (some (.int R.1)) := by
  refine ct_z (by decide +kernel) (Nat.le_of_ble_eq_true rfl) ?_
  intro p e s m args below meth c Q A ls cx hP hD hA hl hfin
  obtain ⟨hx, hb, hml, hown, hts, hK⟩ := id cx
  have hl : lv_has ls 5 [(0, .ref h_t), (1, .int p1), (2, .int p2)] := hl
  have hS : va_S A s.heap s.heap [] := va_S.rf
  refine lv_iload_n hx hb dX9_finds_0 rfl (lv_at hl 2 rfl) ?_
  refine lv_istore_n (lv' := [(3, .int p2), (0, .ref h_t), (1, .int p1), (2, .int p2)]) hx hb dX9_finds_1 rfl hl (by decide) rfl (fun ls hl => ?_)
  refine lv_iconst (v := (nI 0)) hx hb dX9_finds_2 (by decide) ?_
  refine lv_istore (lv' := [(4, .int (nI 0)), (3, .int p2), (0, .ref h_t), (1, .int p1), (2, .int p2)]) hx hb dX9_finds_3 hl (by decide) rfl (fun ls hl => ?_)
  refine lv_aload_n hx hb dX9_finds_5 rfl (lv_at hl 2 rfl) ?_
  refine w_get cx hP 0 9 21 rfl rfl (by decide) m_665 rfl rfl dX9_finds_6 ?_
  refine lv_iconst (v := (nI 0)) hx hb dX9_finds_9 (by decide) ?_
  refine lv_iconst (v := (nI 4294967295)) hx hb dX9_finds_10 (by decide) ?_
  obtain ⟨g_11, hM⟩ := gd_some hM
  refine w_iast cx hP hD hS 2 rfl g_11 dX9_finds_11 [ob h_t 9 [.ref h_t_now, .ref h_t_read, .ref h_t_past, .int t_saved, .ref h_t_text, .int t_letters, .int t_stage, .ref h_t_part, .int t_size, .ref h_t_matrix, .ref h_t_power, .ref h_t_product, .ref h_t_poly, .ref h_t_old, .ref h_t_step, .ref h_t_column, .ref h_t_moved, .ref h_t_traces, .ref h_t_signed, .ref h_t_plus, .ref h_t_minus, .ref h_t_walk], aI g h_t_now 29 a_t_now, aI g h_t_walk 5 (upd a_t_walk (nI 0).toNatClampNeg (nI 4294967295))] rfl (fun H locs hP hD hS => ?_)
  obtain ⟨r_12, hw, hM⟩ := bd_some hM
  obtain ⟨n, hn⟩ := wh_some hw
  clear hw
  have hE_12_0 : ∀ (r_12_0 : Nat → Int32), r_12 = .inl r_12_0 → ∀ (H : Heap) (locs : List Loc) (ls : Array Slot), va_P (gD g) vwCl [ob h_t 9 [.ref h_t_now, .ref h_t_read, .ref h_t_past, .int t_saved, .ref h_t_text, .int t_letters, .int t_stage, .ref h_t_part, .int t_size, .ref h_t_matrix, .ref h_t_power, .ref h_t_product, .ref h_t_poly, .ref h_t_old, .ref h_t_step, .ref h_t_column, .ref h_t_moved, .ref h_t_traces, .ref h_t_signed, .ref h_t_plus, .ref h_t_minus, .ref h_t_walk], aI g h_t_now 29 a_t_now, aI g h_t_walk 5 r_12_0] H → va_D A [ob h_t 9 [.ref h_t_now, .ref h_t_read, .ref h_t_past, .int t_saved, .ref h_t_text, .int t_letters, .int t_stage, .ref h_t_part, .int t_size, .ref h_t_matrix, .ref h_t_power, .ref h_t_product, .ref h_t_poly, .ref h_t_old, .ref h_t_step, .ref h_t_column, .ref h_t_moved, .ref h_t_traces, .ref h_t_signed, .ref h_t_plus, .ref h_t_minus, .ref h_t_walk], aI g h_t_now 29 a_t_now, aI g h_t_walk 5 r_12_0] → va_S A s.heap H locs → lv_has ls 5 [] → W p l e (rmv 3 68) s m args below meth c H locs 0 0 Q (F0 m 121 ls []) := by
    intro r_12_0 hr H locs ls hP hD hS hl
    have hM := ex2_0 hM hr
    refine lv_iconst (v := (nI 1)) hx hb dX9_finds_121 (by decide) ?_
    have hz : bq (nI 1) = true := by decide
    obtain rfl := Option.some.inj hM
    exact hfin 122 _ _ _ dX9_finds_122 hz hP hD hS
  have hE_12_1 : ∀ (r_12_1 : Nat → Int32), r_12 = .inr r_12_1 → ∀ (H : Heap) (locs : List Loc) (ls : Array Slot), va_P (gD g) vwCl [ob h_t 9 [.ref h_t_now, .ref h_t_read, .ref h_t_past, .int t_saved, .ref h_t_text, .int t_letters, .int t_stage, .ref h_t_part, .int t_size, .ref h_t_matrix, .ref h_t_power, .ref h_t_product, .ref h_t_poly, .ref h_t_old, .ref h_t_step, .ref h_t_column, .ref h_t_moved, .ref h_t_traces, .ref h_t_signed, .ref h_t_plus, .ref h_t_minus, .ref h_t_walk], aI g h_t_now 29 a_t_now, aI g h_t_walk 5 r_12_1] H → va_D A [ob h_t 9 [.ref h_t_now, .ref h_t_read, .ref h_t_past, .int t_saved, .ref h_t_text, .int t_letters, .int t_stage, .ref h_t_part, .int t_size, .ref h_t_matrix, .ref h_t_power, .ref h_t_product, .ref h_t_poly, .ref h_t_old, .ref h_t_step, .ref h_t_column, .ref h_t_moved, .ref h_t_traces, .ref h_t_signed, .ref h_t_plus, .ref h_t_minus, .ref h_t_walk], aI g h_t_now 29 a_t_now, aI g h_t_walk 5 r_12_1] → va_S A s.heap H locs → lv_has ls 5 [] → W p l e (rmv 3 68) s m args below meth c H locs 0 0 Q (F0 m 129 ls []) := by
    intro r_12_1 hr H locs ls hP hD hS hl
    have hM := ex2_1 hM hr
    refine lv_iconst (v := (nI 0)) hx hb dX9_finds_129 (by decide) ?_
    have hz : bq (nI 0) = true := by decide
    obtain rfl := Option.some.inj hM
    exact hfin 130 _ _ _ dX9_finds_130 hz hP hD hS
  clear hM
  have hL_12 : ∀ (n : Nat) (z_12 : Int32 × Int32 × (Nat → Int32)), it (b_X9_finds_12 p1 t_saved t_letters t_stage t_size a_t_now) n z_12 = some r_12 → ∀ (H : Heap) (locs : List Loc) (ls : Array Slot), va_P (gD g) vwCl [ob h_t 9 [.ref h_t_now, .ref h_t_read, .ref h_t_past, .int t_saved, .ref h_t_text, .int t_letters, .int t_stage, .ref h_t_part, .int t_size, .ref h_t_matrix, .ref h_t_power, .ref h_t_product, .ref h_t_poly, .ref h_t_old, .ref h_t_step, .ref h_t_column, .ref h_t_moved, .ref h_t_traces, .ref h_t_signed, .ref h_t_plus, .ref h_t_minus, .ref h_t_walk], aI g h_t_now 29 a_t_now, aI g h_t_walk 5 z_12.2.2] H → va_D A [ob h_t 9 [.ref h_t_now, .ref h_t_read, .ref h_t_past, .int t_saved, .ref h_t_text, .int t_letters, .int t_stage, .ref h_t_part, .int t_size, .ref h_t_matrix, .ref h_t_power, .ref h_t_product, .ref h_t_poly, .ref h_t_old, .ref h_t_step, .ref h_t_column, .ref h_t_moved, .ref h_t_traces, .ref h_t_signed, .ref h_t_plus, .ref h_t_minus, .ref h_t_walk], aI g h_t_now 29 a_t_now, aI g h_t_walk 5 z_12.2.2] → va_S A s.heap H locs → lv_has ls 5 [(4, .int z_12.1), (3, .int z_12.2.1), (0, .ref h_t), (1, .int p1)] → W p l e (rmv 3 68) s m args below meth c H locs 0 0 Q (F0 m 12 ls []) := by
    intro n
    induction n with
    | zero => intro z_12 hn; exact (it_zero hn).elim
    | succ n ih =>
      intro z_12 hn H locs ls hP hD hS hl
      obtain ⟨x, hM, hX⟩ := it_succ hn
      clear hn
      refine lv_iload hx hb dX9_finds_12 (lv_at hl 0 rfl) ?_
      refine lv_if_lt (tgt := 129) hx hb dX9_finds_14 (by decide) (fun c_14 => ?_) (fun c_14 => ?_)
      · have hM := if_t hM c_14
        obtain rfl := Option.some.inj hM
        obtain rfl : _ = r_12 := hX
        exact hE_12_1 _ rfl _ _ _ hP hD hS (lv_sub hl [] rfl)
      · have hM := if_f hM c_14
        refine lv_aload_n hx hb dX9_finds_17 rfl (lv_at hl 2 rfl) ?_
        refine w_get cx hP 0 9 21 rfl rfl (by decide) m_665 rfl rfl dX9_finds_18 ?_
        refine lv_iload hx hb dX9_finds_21 (lv_at hl 0 rfl) ?_
        refine lv_dup2_11 hx hb dX9_finds_23 rfl rfl ?_
        obtain ⟨g_24, hM⟩ := gd_some hM
        refine w_iald cx hP 2 rfl g_24 dX9_finds_24 ?_
        refine lv_iconst (v := (nI 1)) hx hb dX9_finds_25 (by decide) ?_
        refine lv_iadd hx hb dX9_finds_26 ?_
        obtain ⟨g_27, hM⟩ := gd_some hM
        refine w_iast cx hP hD hS 2 rfl g_27 dX9_finds_27 [ob h_t 9 [.ref h_t_now, .ref h_t_read, .ref h_t_past, .int t_saved, .ref h_t_text, .int t_letters, .int t_stage, .ref h_t_part, .int t_size, .ref h_t_matrix, .ref h_t_power, .ref h_t_product, .ref h_t_poly, .ref h_t_old, .ref h_t_step, .ref h_t_column, .ref h_t_moved, .ref h_t_traces, .ref h_t_signed, .ref h_t_plus, .ref h_t_minus, .ref h_t_walk], aI g h_t_now 29 a_t_now, aI g h_t_walk 5 (upd z_12.2.2 z_12.1.toNatClampNeg ((z_12.2.2 z_12.1.toNatClampNeg) + (nI 1)))] rfl (fun H locs hP hD hS => ?_)
        refine lv_aload_n hx hb dX9_finds_28 rfl (lv_at hl 2 rfl) ?_
        refine w_get cx hP 0 9 21 rfl rfl (by decide) m_665 rfl rfl dX9_finds_29 ?_
        refine lv_iload hx hb dX9_finds_32 (lv_at hl 0 rfl) ?_
        obtain ⟨g_34, hM⟩ := gd_some hM
        refine w_iald cx hP 2 rfl g_34 dX9_finds_34 ?_
        refine lv_iconst (v := (nI 2)) hx hb dX9_finds_35 (by decide) ?_
        refine lv_aload_n hx hb dX9_finds_36 rfl (lv_at hl 2 rfl) ?_
        refine w_get cx hP 0 9 0 rfl rfl (by decide) m_644 rfl rfl dX9_finds_37 ?_
        refine lv_iconst (v := (nI 1)) hx hb dX9_finds_40 (by decide) ?_
        obtain ⟨g_41, hM⟩ := gd_some hM
        refine w_iald cx hP 1 rfl g_41 dX9_finds_41 ?_
        refine lv_imul hx hb dX9_finds_42 ?_
        refine lv_icmp_ne (tgt := 52) hx hb dX9_finds_43 (by decide) (fun c_43 => ?_) (fun c_43 => ?_)
        · have hM := if_f hM c_43
          refine lv_iload hx hb dX9_finds_52 (lv_at hl 0 rfl) ?_
          refine lv_if_eq (tgt := 80) hx hb dX9_finds_54 (by decide) (fun c_54 => ?_) (fun c_54 => ?_)
          · have hM := if_t hM c_54
            refine lv_iload hx hb dX9_finds_80 (lv_at hl 0 rfl) ?_
            refine lv_iload_n hx hb dX9_finds_82 rfl (lv_at hl 3 rfl) ?_
            refine lv_iconst (v := (nI 1)) hx hb dX9_finds_83 (by decide) ?_
            refine lv_isub hx hb dX9_finds_84 ?_
            refine lv_icmp_ge (tgt := 109) hx hb dX9_finds_85 (by decide) (fun c_85 => ?_) (fun c_85 => ?_)
            · have hM := if_t hM c_85
              refine lv_aload_n hx hb dX9_finds_109 rfl (lv_at hl 2 rfl) ?_
              refine lv_iload_n hx hb dX9_finds_110 rfl (lv_at hl 3 rfl) ?_
              obtain ⟨q_111, hc_111, hM⟩ := bd_some hM
              refine w_callV cx hP hD hS hA (c_X9_isFirst g l h_t h_t_now h_t_read h_t_past h_t_text h_t_part h_t_matrix h_t_power h_t_product h_t_poly h_t_old h_t_step h_t_column h_t_moved h_t_traces h_t_signed h_t_plus h_t_minus h_t_walk p1 t_saved t_letters t_stage t_size a_t_now (upd z_12.2.2 z_12.1.toNatClampNeg ((z_12.2.2 z_12.1.toNatClampNeg) + (nI 1))) hc_111) [0, 1, 2] rfl (by decide) rfl [ob h_t 9 [.ref h_t_now, .ref h_t_read, .ref h_t_past, .int t_saved, .ref h_t_text, .int t_letters, .int t_stage, .ref h_t_part, .int t_size, .ref h_t_matrix, .ref h_t_power, .ref h_t_product, .ref h_t_poly, .ref h_t_old, .ref h_t_step, .ref h_t_column, .ref h_t_moved, .ref h_t_traces, .ref h_t_signed, .ref h_t_plus, .ref h_t_minus, .ref h_t_walk], aI g h_t_now 29 a_t_now, aI g h_t_walk 5 (upd z_12.2.2 z_12.1.toNatClampNeg ((z_12.2.2 z_12.1.toNatClampNeg) + (nI 1)))] rfl 0 9 rfl rfl yq_X9_isFirst rfl m_883 m_885 m_33 m_51 m_886 ⟨Nat.le_of_ble_eq_true rfl, Nat.le_of_ble_eq_true rfl⟩ rfl rfl hl.1 (Nat.le_of_ble_eq_true rfl) dX9_finds_111 ⟨Nat.le_refl 0, Nat.le_refl 0⟩ rfl (fun H locs hP hD hS => ?_)
              refine lv_if_eq (tgt := 12) hx hb dX9_finds_114 (by decide) (fun c_114 => ?_) (fun c_114 => ?_)
              · have hM := if_t hM c_114
                obtain rfl := Option.some.inj hM
                exact ih _ hX _ _ _ hP hD hS (lv_sub hl [0, 1, 2, 3] rfl)
              · have hM := if_f hM c_114
                refine lv_iload_n hx hb dX9_finds_117 rfl (lv_at hl 1 rfl) ?_
                refine lv_if_ne (tgt := 123) hx hb dX9_finds_118 (by decide) (fun c_118 => ?_) (fun c_118 => ?_)
                · have hM := if_f hM c_118
                  obtain ⟨x_123, ex_123⟩ : ∃ q : Int32, q = z_12.2.1 + (nI 4294967295) := ⟨_, rfl⟩
                  have hM := nm_some hM x_123 ex_123
                  refine lv_iinc (v := x_123) (lv' := [(3, .int x_123), (4, .int z_12.1), (0, .ref h_t), (1, .int p1)]) hx hb dX9_finds_123 hl (k := 1) rfl ((congrArg (fun q => z_12.2.1 + q) (show Int32.ofInt (-1) = (nI 4294967295) by decide)).trans ex_123.symm) (by decide) rfl (fun ls hl => ?_)
                  refine lv_goto (tgt := 12) hx hb dX9_finds_126 (by decide) ?_
                  obtain rfl := Option.some.inj hM
                  exact ih _ hX _ _ _ hP hD hS (lv_sub hl [1, 0, 2, 3] rfl)
                · have hM := if_t hM c_118
                  obtain rfl := Option.some.inj hM
                  obtain rfl : _ = r_12 := hX
                  exact hE_12_0 _ rfl _ _ _ hP hD hS (lv_sub hl [] rfl)
            · have hM := if_f hM c_85
              refine lv_iinc (v := z_12.1 + (nI 1)) (lv' := [(4, .int (z_12.1 + (nI 1))), (3, .int z_12.2.1), (0, .ref h_t), (1, .int p1)]) hx hb dX9_finds_88 hl (k := 0) rfl (congrArg (fun q => z_12.1 + q) (show Int32.ofInt (1) = (nI 1) by decide)) (by decide) rfl (fun ls hl => ?_)
              refine lv_aload_n hx hb dX9_finds_91 rfl (lv_at hl 2 rfl) ?_
              refine w_get cx hP 0 9 21 rfl rfl (by decide) m_665 rfl rfl dX9_finds_92 ?_
              refine lv_iload hx hb dX9_finds_95 (lv_at hl 0 rfl) ?_
              refine lv_aload_n hx hb dX9_finds_97 rfl (lv_at hl 2 rfl) ?_
              refine w_get cx hP 0 9 21 rfl rfl (by decide) m_665 rfl rfl dX9_finds_98 ?_
              refine lv_iconst (v := (nI 0)) hx hb dX9_finds_101 (by decide) ?_
              obtain ⟨g_102, hM⟩ := gd_some hM
              refine w_iald cx hP 2 rfl g_102 dX9_finds_102 ?_
              refine lv_iconst (v := (nI 1)) hx hb dX9_finds_103 (by decide) ?_
              refine lv_isub hx hb dX9_finds_104 ?_
              obtain ⟨g_105, hM⟩ := gd_some hM
              refine w_iast cx hP hD hS 2 rfl g_105 dX9_finds_105 [ob h_t 9 [.ref h_t_now, .ref h_t_read, .ref h_t_past, .int t_saved, .ref h_t_text, .int t_letters, .int t_stage, .ref h_t_part, .int t_size, .ref h_t_matrix, .ref h_t_power, .ref h_t_product, .ref h_t_poly, .ref h_t_old, .ref h_t_step, .ref h_t_column, .ref h_t_moved, .ref h_t_traces, .ref h_t_signed, .ref h_t_plus, .ref h_t_minus, .ref h_t_walk], aI g h_t_now 29 a_t_now, aI g h_t_walk 5 (upd (upd z_12.2.2 z_12.1.toNatClampNeg ((z_12.2.2 z_12.1.toNatClampNeg) + (nI 1))) (z_12.1 + (nI 1)).toNatClampNeg (((upd z_12.2.2 z_12.1.toNatClampNeg ((z_12.2.2 z_12.1.toNatClampNeg) + (nI 1))) (nI 0).toNatClampNeg) - (nI 1)))] rfl (fun H locs hP hD hS => ?_)
              refine lv_goto (tgt := 12) hx hb dX9_finds_106 (by decide) ?_
              obtain rfl := Option.some.inj hM
              exact ih _ hX _ _ _ hP hD hS (lv_sub hl [0, 1, 2, 3] rfl)
          · have hM := if_f hM c_54
            refine lv_aload_n hx hb dX9_finds_57 rfl (lv_at hl 2 rfl) ?_
            refine lv_aload_n hx hb dX9_finds_58 rfl (lv_at hl 2 rfl) ?_
            refine w_get cx hP 0 9 21 rfl rfl (by decide) m_665 rfl rfl dX9_finds_59 ?_
            refine lv_iload hx hb dX9_finds_62 (lv_at hl 0 rfl) ?_
            refine lv_iconst (v := (nI 1)) hx hb dX9_finds_64 (by decide) ?_
            refine lv_isub hx hb dX9_finds_65 ?_
            obtain ⟨g_66, hM⟩ := gd_some hM
            refine w_iald cx hP 2 rfl g_66 dX9_finds_66 ?_
            refine lv_aload_n hx hb dX9_finds_67 rfl (lv_at hl 2 rfl) ?_
            refine w_get cx hP 0 9 21 rfl rfl (by decide) m_665 rfl rfl dX9_finds_68 ?_
            refine lv_iload hx hb dX9_finds_71 (lv_at hl 0 rfl) ?_
            obtain ⟨g_73, hM⟩ := gd_some hM
            refine w_iald cx hP 2 rfl g_73 dX9_finds_73 ?_
            obtain ⟨q_74, hc_74, hM⟩ := bd_some hM
            refine w_callV cx hP hD hS hA (c_X9_isNext g l h_t h_t_now h_t_read h_t_past h_t_text h_t_part h_t_matrix h_t_power h_t_product h_t_poly h_t_old h_t_step h_t_column h_t_moved h_t_traces h_t_signed h_t_plus h_t_minus h_t_walk ((upd z_12.2.2 z_12.1.toNatClampNeg ((z_12.2.2 z_12.1.toNatClampNeg) + (nI 1))) (z_12.1 - (nI 1)).toNatClampNeg) ((upd z_12.2.2 z_12.1.toNatClampNeg ((z_12.2.2 z_12.1.toNatClampNeg) + (nI 1))) z_12.1.toNatClampNeg) t_saved t_letters t_stage t_size a_t_now hc_74) [0, 1] rfl (by decide) rfl [ob h_t 9 [.ref h_t_now, .ref h_t_read, .ref h_t_past, .int t_saved, .ref h_t_text, .int t_letters, .int t_stage, .ref h_t_part, .int t_size, .ref h_t_matrix, .ref h_t_power, .ref h_t_product, .ref h_t_poly, .ref h_t_old, .ref h_t_step, .ref h_t_column, .ref h_t_moved, .ref h_t_traces, .ref h_t_signed, .ref h_t_plus, .ref h_t_minus, .ref h_t_walk], aI g h_t_now 29 a_t_now, aI g h_t_walk 5 (upd z_12.2.2 z_12.1.toNatClampNeg ((z_12.2.2 z_12.1.toNatClampNeg) + (nI 1)))] rfl 0 9 rfl rfl yq_X9_isNext rfl m_790 m_792 m_23 m_51 m_793 ⟨Nat.le_of_ble_eq_true rfl, Nat.le_of_ble_eq_true rfl⟩ rfl rfl hl.1 (Nat.le_of_ble_eq_true rfl) dX9_finds_74 ⟨Nat.le_refl 0, Nat.le_refl 0⟩ rfl (fun H locs hP hD hS => ?_)
            refine lv_if_eq (tgt := 12) hx hb dX9_finds_77 (by decide) (fun c_77 => ?_) (fun c_77 => ?_)
            · have hM := if_t hM c_77
              obtain rfl := Option.some.inj hM
              exact ih _ hX _ _ _ hP hD hS (lv_sub hl [0, 1, 2, 3] rfl)
            · have hM := if_f hM c_77
              refine lv_iload hx hb dX9_finds_80 (lv_at hl 0 rfl) ?_
              refine lv_iload_n hx hb dX9_finds_82 rfl (lv_at hl 3 rfl) ?_
              refine lv_iconst (v := (nI 1)) hx hb dX9_finds_83 (by decide) ?_
              refine lv_isub hx hb dX9_finds_84 ?_
              refine lv_icmp_ge (tgt := 109) hx hb dX9_finds_85 (by decide) (fun c_85 => ?_) (fun c_85 => ?_)
              · have hM := if_t hM c_85
                refine lv_aload_n hx hb dX9_finds_109 rfl (lv_at hl 2 rfl) ?_
                refine lv_iload_n hx hb dX9_finds_110 rfl (lv_at hl 3 rfl) ?_
                obtain ⟨q_111, hc_111, hM⟩ := bd_some hM
                refine w_callV cx hP hD hS hA (c_X9_isFirst g l h_t h_t_now h_t_read h_t_past h_t_text h_t_part h_t_matrix h_t_power h_t_product h_t_poly h_t_old h_t_step h_t_column h_t_moved h_t_traces h_t_signed h_t_plus h_t_minus h_t_walk p1 t_saved t_letters t_stage t_size a_t_now (upd z_12.2.2 z_12.1.toNatClampNeg ((z_12.2.2 z_12.1.toNatClampNeg) + (nI 1))) hc_111) [0, 1, 2] rfl (by decide) rfl [ob h_t 9 [.ref h_t_now, .ref h_t_read, .ref h_t_past, .int t_saved, .ref h_t_text, .int t_letters, .int t_stage, .ref h_t_part, .int t_size, .ref h_t_matrix, .ref h_t_power, .ref h_t_product, .ref h_t_poly, .ref h_t_old, .ref h_t_step, .ref h_t_column, .ref h_t_moved, .ref h_t_traces, .ref h_t_signed, .ref h_t_plus, .ref h_t_minus, .ref h_t_walk], aI g h_t_now 29 a_t_now, aI g h_t_walk 5 (upd z_12.2.2 z_12.1.toNatClampNeg ((z_12.2.2 z_12.1.toNatClampNeg) + (nI 1)))] rfl 0 9 rfl rfl yq_X9_isFirst rfl m_883 m_885 m_33 m_51 m_886 ⟨Nat.le_of_ble_eq_true rfl, Nat.le_of_ble_eq_true rfl⟩ rfl rfl hl.1 (Nat.le_of_ble_eq_true rfl) dX9_finds_111 ⟨Nat.le_refl 0, Nat.le_refl 0⟩ rfl (fun H locs hP hD hS => ?_)
                refine lv_if_eq (tgt := 12) hx hb dX9_finds_114 (by decide) (fun c_114 => ?_) (fun c_114 => ?_)
                · have hM := if_t hM c_114
                  obtain rfl := Option.some.inj hM
                  exact ih _ hX _ _ _ hP hD hS (lv_sub hl [0, 1, 2, 3] rfl)
                · have hM := if_f hM c_114
                  refine lv_iload_n hx hb dX9_finds_117 rfl (lv_at hl 1 rfl) ?_
                  refine lv_if_ne (tgt := 123) hx hb dX9_finds_118 (by decide) (fun c_118 => ?_) (fun c_118 => ?_)
                  · have hM := if_f hM c_118
                    obtain ⟨x_123, ex_123⟩ : ∃ q : Int32, q = z_12.2.1 + (nI 4294967295) := ⟨_, rfl⟩
                    have hM := nm_some hM x_123 ex_123
                    refine lv_iinc (v := x_123) (lv' := [(3, .int x_123), (4, .int z_12.1), (0, .ref h_t), (1, .int p1)]) hx hb dX9_finds_123 hl (k := 1) rfl ((congrArg (fun q => z_12.2.1 + q) (show Int32.ofInt (-1) = (nI 4294967295) by decide)).trans ex_123.symm) (by decide) rfl (fun ls hl => ?_)
                    refine lv_goto (tgt := 12) hx hb dX9_finds_126 (by decide) ?_
                    obtain rfl := Option.some.inj hM
                    exact ih _ hX _ _ _ hP hD hS (lv_sub hl [1, 0, 2, 3] rfl)
                  · have hM := if_t hM c_118
                    obtain rfl := Option.some.inj hM
                    obtain rfl : _ = r_12 := hX
                    exact hE_12_0 _ rfl _ _ _ hP hD hS (lv_sub hl [] rfl)
              · have hM := if_f hM c_85
                refine lv_iinc (v := z_12.1 + (nI 1)) (lv' := [(4, .int (z_12.1 + (nI 1))), (3, .int z_12.2.1), (0, .ref h_t), (1, .int p1)]) hx hb dX9_finds_88 hl (k := 0) rfl (congrArg (fun q => z_12.1 + q) (show Int32.ofInt (1) = (nI 1) by decide)) (by decide) rfl (fun ls hl => ?_)
                refine lv_aload_n hx hb dX9_finds_91 rfl (lv_at hl 2 rfl) ?_
                refine w_get cx hP 0 9 21 rfl rfl (by decide) m_665 rfl rfl dX9_finds_92 ?_
                refine lv_iload hx hb dX9_finds_95 (lv_at hl 0 rfl) ?_
                refine lv_aload_n hx hb dX9_finds_97 rfl (lv_at hl 2 rfl) ?_
                refine w_get cx hP 0 9 21 rfl rfl (by decide) m_665 rfl rfl dX9_finds_98 ?_
                refine lv_iconst (v := (nI 0)) hx hb dX9_finds_101 (by decide) ?_
                obtain ⟨g_102, hM⟩ := gd_some hM
                refine w_iald cx hP 2 rfl g_102 dX9_finds_102 ?_
                refine lv_iconst (v := (nI 1)) hx hb dX9_finds_103 (by decide) ?_
                refine lv_isub hx hb dX9_finds_104 ?_
                obtain ⟨g_105, hM⟩ := gd_some hM
                refine w_iast cx hP hD hS 2 rfl g_105 dX9_finds_105 [ob h_t 9 [.ref h_t_now, .ref h_t_read, .ref h_t_past, .int t_saved, .ref h_t_text, .int t_letters, .int t_stage, .ref h_t_part, .int t_size, .ref h_t_matrix, .ref h_t_power, .ref h_t_product, .ref h_t_poly, .ref h_t_old, .ref h_t_step, .ref h_t_column, .ref h_t_moved, .ref h_t_traces, .ref h_t_signed, .ref h_t_plus, .ref h_t_minus, .ref h_t_walk], aI g h_t_now 29 a_t_now, aI g h_t_walk 5 (upd (upd z_12.2.2 z_12.1.toNatClampNeg ((z_12.2.2 z_12.1.toNatClampNeg) + (nI 1))) (z_12.1 + (nI 1)).toNatClampNeg (((upd z_12.2.2 z_12.1.toNatClampNeg ((z_12.2.2 z_12.1.toNatClampNeg) + (nI 1))) (nI 0).toNatClampNeg) - (nI 1)))] rfl (fun H locs hP hD hS => ?_)
                refine lv_goto (tgt := 12) hx hb dX9_finds_106 (by decide) ?_
                obtain rfl := Option.some.inj hM
                exact ih _ hX _ _ _ hP hD hS (lv_sub hl [0, 1, 2, 3] rfl)
        · have hM := if_t hM c_43
          obtain ⟨x_46, ex_46⟩ : ∃ q : Int32, q = z_12.1 + (nI 4294967295) := ⟨_, rfl⟩
          have hM := nm_some hM x_46 ex_46
          refine lv_iinc (v := x_46) (lv' := [(4, .int x_46), (3, .int z_12.2.1), (0, .ref h_t), (1, .int p1)]) hx hb dX9_finds_46 hl (k := 0) rfl ((congrArg (fun q => z_12.1 + q) (show Int32.ofInt (-1) = (nI 4294967295) by decide)).trans ex_46.symm) (by decide) rfl (fun ls hl => ?_)
          refine lv_goto (tgt := 12) hx hb dX9_finds_49 (by decide) ?_
          obtain rfl := Option.some.inj hM
          exact ih _ hX _ _ _ hP hD hS (lv_sub hl [0, 1, 2, 3] rfl)
  exact hL_12 n _ hn _ _ _ hP hD hS (lv_sub hl [0, 1, 2, 3] rfl)
noncomputable def f_X9_primeEdge (p1 : Int32) (p2 : Int32) (p3 : Int32) (t_saved : Int32) (t_letters : Int32) (t_stage : Int32) (t_size : Int32) (a_t_now : Nat → Int32) (a_t_walk : Nat → Int32) : Option (Int32 × (Nat → Int32)) :=
  bd (f_X9_in p1 (nI 1) (nI 5)) (fun (q_3 : Int32) => if q_3 = 0 then some ((nI 4294967295), a_t_walk) else if p2 < 0 then some ((nI 4294967295), a_t_walk) else bd (f_X9_in p3 (nI 0) (p1 - (nI 1))) (fun (q_18 : Int32) => if q_18 = 0 then some ((nI 4294967295), a_t_walk) else bd (f_X9_finds p1 p2 t_saved t_letters t_stage t_size a_t_now a_t_walk) (fun (q_29 : Int32 × (Nat → Int32)) => if q_29.1 = 0 then some ((nI 4294967287), q_29.2) else gd (inb p3 5) (some (q_29.2 p3.toNatClampNeg, q_29.2)))))
theorem yq_X9_primeEdge : yq yX9_primeEdge 3 := by unfold yq; decide +kernel
set_option maxHeartbeats 4000000 in
set_option maxRecDepth 100000 in
theorem c_X9_primeEdge (g : GG) (l : Launch) (h_t : Nat) (h_t_now : Nat) (h_t_read : Nat) (h_t_past : Nat) (h_t_text : Nat) (h_t_part : Nat) (h_t_matrix : Nat) (h_t_power : Nat) (h_t_product : Nat) (h_t_poly : Nat) (h_t_old : Nat) (h_t_step : Nat) (h_t_column : Nat) (h_t_moved : Nat) (h_t_traces : Nat) (h_t_signed : Nat) (h_t_plus : Nat) (h_t_minus : Nat) (h_t_walk : Nat) (p1 : Int32) (p2 : Int32) (p3 : Int32) (t_saved : Int32) (t_letters : Int32) (t_stage : Int32) (t_size : Int32) (a_t_now : Nat → Int32) (a_t_walk : Nat → Int32) {R : Int32 × (Nat → Int32)} (hM : f_X9_primeEdge p1 p2 p3 t_saved t_letters t_stage t_size a_t_now a_t_walk = some R) : CT g l yX9_primeEdge cX9_primeEdge 4 (some .int) 4 92 [.ref h_t, .int p1, .int p2, .int p3] [ob h_t 9 [.ref h_t_now, .ref h_t_read, .ref h_t_past, .int t_saved, .ref h_t_text, .int t_letters, .int t_stage, .ref h_t_part, .int t_size, .ref h_t_matrix, .ref h_t_power, .ref h_t_product, .ref h_t_poly, .ref h_t_old, .ref h_t_step, .ref h_t_column, .ref h_t_moved, .ref h_t_traces, .ref h_t_signed, .ref h_t_plus, .ref h_t_minus, .ref h_t_walk], aI g h_t_now 29 a_t_now, aI g h_t_walk 5 a_t_walk] [ob h_t 9 [.ref h_t_now, .ref h_t_read, .ref h_t_past, .int t_saved, .ref h_t_text, .int t_letters, .int t_stage, .ref h_t_part, .int t_size, .ref h_t_matrix, .ref h_t_power, .ref h_t_product, .ref h_t_poly, .ref h_t_old, .ref h_t_step, .ref h_t_column, .ref h_t_moved, .ref h_t_traces, .ref h_t_signed, .ref h_t_plus, .ref h_t_minus, .ref h_t_walk], aI g h_t_now 29 a_t_now, aI g h_t_walk 5 R.2] (some (.int R.1)) := by
  refine ct_i (by decide +kernel) (Nat.le_of_ble_eq_true rfl) ?_
  intro p e s m args below meth c Q A ls cx hP hD hA hl hfin
  obtain ⟨hx, hb, hml, hown, hts, hK⟩ := id cx
  have hl : lv_has ls 4 [(0, .ref h_t), (1, .int p1), (2, .int p2), (3, .int p3)] := hl
  have hS : va_S A s.heap s.heap [] := va_S.rf
  refine lv_iload_n hx hb dX9_primeEdge_0 rfl (lv_at hl 1 rfl) ?_
  refine lv_iconst (v := (nI 1)) hx hb dX9_primeEdge_1 (by decide) ?_
  refine lv_iconst (v := (nI 5)) hx hb dX9_primeEdge_2 (by decide) ?_
  obtain ⟨q_3, hc_3, hM⟩ := bd_some hM
  refine w_callS cx hP hD hS hA (c_X9_in g l p1 (nI 1) (nI 5) hc_3) [] rfl (by decide) rfl [ob h_t 9 [.ref h_t_now, .ref h_t_read, .ref h_t_past, .int t_saved, .ref h_t_text, .int t_letters, .int t_stage, .ref h_t_part, .int t_size, .ref h_t_matrix, .ref h_t_power, .ref h_t_product, .ref h_t_poly, .ref h_t_old, .ref h_t_step, .ref h_t_column, .ref h_t_moved, .ref h_t_traces, .ref h_t_signed, .ref h_t_plus, .ref h_t_minus, .ref h_t_walk], aI g h_t_now 29 a_t_now, aI g h_t_walk 5 a_t_walk] rfl yq_X9_in m_715 m_716 m_51 m_717 ⟨Nat.le_of_ble_eq_true rfl, Nat.le_of_ble_eq_true rfl⟩ rfl rfl hl.1 (Nat.le_of_ble_eq_true rfl) dX9_primeEdge_3 ⟨Nat.le_refl 0, Nat.le_refl 0⟩ rfl (fun H locs hP hD hS => ?_)
  refine lv_if_eq (tgt := 24) hx hb dX9_primeEdge_6 (by decide) (fun c_6 => ?_) (fun c_6 => ?_)
  · have hM := if_t hM c_6
    refine lv_iconst (v := (nI 4294967295)) hx hb dX9_primeEdge_24 (by decide) ?_
    obtain rfl := Option.some.inj hM
    exact hfin 25 _ _ _ dX9_primeEdge_25 hP hD hS
  · have hM := if_f hM c_6
    refine lv_iload_n hx hb dX9_primeEdge_9 rfl (lv_at hl 2 rfl) ?_
    refine lv_if_lt (tgt := 24) hx hb dX9_primeEdge_10 (by decide) (fun c_10 => ?_) (fun c_10 => ?_)
    · have hM := if_t hM c_10
      refine lv_iconst (v := (nI 4294967295)) hx hb dX9_primeEdge_24 (by decide) ?_
      obtain rfl := Option.some.inj hM
      exact hfin 25 _ _ _ dX9_primeEdge_25 hP hD hS
    · have hM := if_f hM c_10
      refine lv_iload_n hx hb dX9_primeEdge_13 rfl (lv_at hl 3 rfl) ?_
      refine lv_iconst (v := (nI 0)) hx hb dX9_primeEdge_14 (by decide) ?_
      refine lv_iload_n hx hb dX9_primeEdge_15 rfl (lv_at hl 1 rfl) ?_
      refine lv_iconst (v := (nI 1)) hx hb dX9_primeEdge_16 (by decide) ?_
      refine lv_isub hx hb dX9_primeEdge_17 ?_
      obtain ⟨q_18, hc_18, hM⟩ := bd_some hM
      refine w_callS cx hP hD hS hA (c_X9_in g l p3 (nI 0) (p1 - (nI 1)) hc_18) [] rfl (by decide) rfl [ob h_t 9 [.ref h_t_now, .ref h_t_read, .ref h_t_past, .int t_saved, .ref h_t_text, .int t_letters, .int t_stage, .ref h_t_part, .int t_size, .ref h_t_matrix, .ref h_t_power, .ref h_t_product, .ref h_t_poly, .ref h_t_old, .ref h_t_step, .ref h_t_column, .ref h_t_moved, .ref h_t_traces, .ref h_t_signed, .ref h_t_plus, .ref h_t_minus, .ref h_t_walk], aI g h_t_now 29 a_t_now, aI g h_t_walk 5 a_t_walk] rfl yq_X9_in m_715 m_716 m_51 m_717 ⟨Nat.le_of_ble_eq_true rfl, Nat.le_of_ble_eq_true rfl⟩ rfl rfl hl.1 (Nat.le_of_ble_eq_true rfl) dX9_primeEdge_18 ⟨Nat.le_refl 0, Nat.le_refl 0⟩ rfl (fun H locs hP hD hS => ?_)
      refine lv_if_ne (tgt := 26) hx hb dX9_primeEdge_21 (by decide) (fun c_21 => ?_) (fun c_21 => ?_)
      · have hM := if_f hM c_21
        refine lv_aload_n hx hb dX9_primeEdge_26 rfl (lv_at hl 0 rfl) ?_
        refine lv_iload_n hx hb dX9_primeEdge_27 rfl (lv_at hl 1 rfl) ?_
        refine lv_iload_n hx hb dX9_primeEdge_28 rfl (lv_at hl 2 rfl) ?_
        obtain ⟨q_29, hc_29, hM⟩ := bd_some hM
        refine w_callV cx hP hD hS hA (c_X9_finds g l h_t h_t_now h_t_read h_t_past h_t_text h_t_part h_t_matrix h_t_power h_t_product h_t_poly h_t_old h_t_step h_t_column h_t_moved h_t_traces h_t_signed h_t_plus h_t_minus h_t_walk p1 p2 t_saved t_letters t_stage t_size a_t_now a_t_walk hc_29) [0, 1, 2] rfl (by decide) rfl [ob h_t 9 [.ref h_t_now, .ref h_t_read, .ref h_t_past, .int t_saved, .ref h_t_text, .int t_letters, .int t_stage, .ref h_t_part, .int t_size, .ref h_t_matrix, .ref h_t_power, .ref h_t_product, .ref h_t_poly, .ref h_t_old, .ref h_t_step, .ref h_t_column, .ref h_t_moved, .ref h_t_traces, .ref h_t_signed, .ref h_t_plus, .ref h_t_minus, .ref h_t_walk], aI g h_t_now 29 a_t_now, aI g h_t_walk 5 q_29.2] rfl 0 9 rfl rfl yq_X9_finds rfl m_879 m_881 m_32 m_51 m_882 ⟨Nat.le_of_ble_eq_true rfl, Nat.le_of_ble_eq_true rfl⟩ rfl rfl hl.1 (Nat.le_of_ble_eq_true rfl) dX9_primeEdge_29 ⟨Nat.le_refl 0, Nat.le_refl 0⟩ rfl (fun H locs hP hD hS => ?_)
        refine lv_if_eq (tgt := 44) hx hb dX9_primeEdge_32 (by decide) (fun c_32 => ?_) (fun c_32 => ?_)
        · have hM := if_t hM c_32
          refine lv_bipush (v := (nI 4294967287)) hx hb dX9_primeEdge_44 (by decide) ?_
          obtain rfl := Option.some.inj hM
          exact hfin 46 _ _ _ dX9_primeEdge_46 hP hD hS
        · have hM := if_f hM c_32
          refine lv_aload_n hx hb dX9_primeEdge_35 rfl (lv_at hl 0 rfl) ?_
          refine w_get cx hP 0 9 21 rfl rfl (by decide) m_665 rfl rfl dX9_primeEdge_36 ?_
          refine lv_iload_n hx hb dX9_primeEdge_39 rfl (lv_at hl 3 rfl) ?_
          obtain ⟨g_40, hM⟩ := gd_some hM
          refine w_iald cx hP 2 rfl g_40 dX9_primeEdge_40 ?_
          refine lv_goto (tgt := 46) hx hb dX9_primeEdge_41 (by decide) ?_
          obtain rfl := Option.some.inj hM
          exact hfin 46 _ _ _ dX9_primeEdge_46 hP hD hS
      · have hM := if_t hM c_21
        refine lv_iconst (v := (nI 4294967295)) hx hb dX9_primeEdge_24 (by decide) ?_
        obtain rfl := Option.some.inj hM
        exact hfin 25 _ _ _ dX9_primeEdge_25 hP hD hS
noncomputable def b_X9_primeSign_29 (p1 : Int32) (t_saved : Int32) (t_letters : Int32) (t_stage : Int32) (t_size : Int32) (a_t_now : Nat → Int32) (q_16 : Int32 × (Nat → Int32)) : Int32 × Int32 → Option ((Int32 × Int32) ⊕ ((Int32))) := fun z_29 =>
  if p1 ≤ z_29.1 then some (.inr z_29.2) else gd (inb z_29.1 5) (bd (f_X9_signOf (q_16.2 z_29.1.toNatClampNeg) t_saved t_letters t_stage t_size a_t_now) (fun (q_44 : Int32) => nm (z_29.2 * q_44) (fun (x_48 : Int32) => some (.inl (z_29.1 + (nI 1), x_48)))))
noncomputable def f_X9_primeSign (p1 : Int32) (p2 : Int32) (t_saved : Int32) (t_letters : Int32) (t_stage : Int32) (t_size : Int32) (a_t_now : Nat → Int32) (a_t_walk : Nat → Int32) : Option (Int32 × (Nat → Int32)) :=
  bd (f_X9_in p1 (nI 1) (nI 5)) (fun (q_3 : Int32) => if q_3 = 0 then some ((nI 0), a_t_walk) else if p2 < 0 then some ((nI 0), a_t_walk) else bd (f_X9_finds p1 p2 t_saved t_letters t_stage t_size a_t_now a_t_walk) (fun (q_16 : Int32 × (Nat → Int32)) => if q_16.1 = 0 then some ((nI 0), q_16.2) else bd (wh (b_X9_primeSign_29 p1 t_saved t_letters t_stage t_size a_t_now q_16) ((nI 0), (nI 1))) (fun (r_29 : Int32) => some (r_29, q_16.2))))
theorem yq_X9_primeSign : yq yX9_primeSign 2 := by unfold yq; decide +kernel
set_option maxHeartbeats 4000000 in
set_option maxRecDepth 100000 in
theorem c_X9_primeSign (g : GG) (l : Launch) (h_t : Nat) (h_t_now : Nat) (h_t_read : Nat) (h_t_past : Nat) (h_t_text : Nat) (h_t_part : Nat) (h_t_matrix : Nat) (h_t_power : Nat) (h_t_product : Nat) (h_t_poly : Nat) (h_t_old : Nat) (h_t_step : Nat) (h_t_column : Nat) (h_t_moved : Nat) (h_t_traces : Nat) (h_t_signed : Nat) (h_t_plus : Nat) (h_t_minus : Nat) (h_t_walk : Nat) (p1 : Int32) (p2 : Int32) (t_saved : Int32) (t_letters : Int32) (t_stage : Int32) (t_size : Int32) (a_t_now : Nat → Int32) (a_t_walk : Nat → Int32) {R : Int32 × (Nat → Int32)} (hM : f_X9_primeSign p1 p2 t_saved t_letters t_stage t_size a_t_now a_t_walk = some R) : CT g l yX9_primeSign cX9_primeSign 5 (some .int) 4 92 [.ref h_t, .int p1, .int p2] [ob h_t 9 [.ref h_t_now, .ref h_t_read, .ref h_t_past, .int t_saved, .ref h_t_text, .int t_letters, .int t_stage, .ref h_t_part, .int t_size, .ref h_t_matrix, .ref h_t_power, .ref h_t_product, .ref h_t_poly, .ref h_t_old, .ref h_t_step, .ref h_t_column, .ref h_t_moved, .ref h_t_traces, .ref h_t_signed, .ref h_t_plus, .ref h_t_minus, .ref h_t_walk], aI g h_t_now 29 a_t_now, aI g h_t_walk 5 a_t_walk] [ob h_t 9 [.ref h_t_now, .ref h_t_read, .ref h_t_past, .int t_saved, .ref h_t_text, .int t_letters, .int t_stage, .ref h_t_part, .int t_size, .ref h_t_matrix, .ref h_t_power, .ref h_t_product, .ref h_t_poly, .ref h_t_old, .ref h_t_step, .ref h_t_column, .ref h_t_moved, .ref h_t_traces, .ref h_t_signed, .ref h_t_plus, .ref h_t_minus, .ref h_t_walk], aI g h_t_now 29 a_t_now, aI g h_t_walk 5 R.2] (some (.int R.1)) := by
  refine ct_i (by decide +kernel) (Nat.le_of_ble_eq_true rfl) ?_
  intro p e s m args below meth c Q A ls cx hP hD hA hl hfin
  obtain ⟨hx, hb, hml, hown, hts, hK⟩ := id cx
  have hl : lv_has ls 5 [(0, .ref h_t), (1, .int p1), (2, .int p2)] := hl
  have hS : va_S A s.heap s.heap [] := va_S.rf
  refine lv_iload_n hx hb dX9_primeSign_0 rfl (lv_at hl 1 rfl) ?_
  refine lv_iconst (v := (nI 1)) hx hb dX9_primeSign_1 (by decide) ?_
  refine lv_iconst (v := (nI 5)) hx hb dX9_primeSign_2 (by decide) ?_
  obtain ⟨q_3, hc_3, hM⟩ := bd_some hM
  refine w_callS cx hP hD hS hA (c_X9_in g l p1 (nI 1) (nI 5) hc_3) [] rfl (by decide) rfl [ob h_t 9 [.ref h_t_now, .ref h_t_read, .ref h_t_past, .int t_saved, .ref h_t_text, .int t_letters, .int t_stage, .ref h_t_part, .int t_size, .ref h_t_matrix, .ref h_t_power, .ref h_t_product, .ref h_t_poly, .ref h_t_old, .ref h_t_step, .ref h_t_column, .ref h_t_moved, .ref h_t_traces, .ref h_t_signed, .ref h_t_plus, .ref h_t_minus, .ref h_t_walk], aI g h_t_now 29 a_t_now, aI g h_t_walk 5 a_t_walk] rfl yq_X9_in m_715 m_716 m_51 m_717 ⟨Nat.le_of_ble_eq_true rfl, Nat.le_of_ble_eq_true rfl⟩ rfl rfl hl.1 (Nat.le_of_ble_eq_true rfl) dX9_primeSign_3 ⟨Nat.le_refl 0, Nat.le_refl 0⟩ rfl (fun H locs hP hD hS => ?_)
  refine lv_if_eq (tgt := 22) hx hb dX9_primeSign_6 (by decide) (fun c_6 => ?_) (fun c_6 => ?_)
  · have hM := if_t hM c_6
    refine lv_iconst (v := (nI 0)) hx hb dX9_primeSign_22 (by decide) ?_
    obtain rfl := Option.some.inj hM
    exact hfin 23 _ _ _ dX9_primeSign_23 hP hD hS
  · have hM := if_f hM c_6
    refine lv_iload_n hx hb dX9_primeSign_9 rfl (lv_at hl 2 rfl) ?_
    refine lv_if_lt (tgt := 22) hx hb dX9_primeSign_10 (by decide) (fun c_10 => ?_) (fun c_10 => ?_)
    · have hM := if_t hM c_10
      refine lv_iconst (v := (nI 0)) hx hb dX9_primeSign_22 (by decide) ?_
      obtain rfl := Option.some.inj hM
      exact hfin 23 _ _ _ dX9_primeSign_23 hP hD hS
    · have hM := if_f hM c_10
      refine lv_aload_n hx hb dX9_primeSign_13 rfl (lv_at hl 0 rfl) ?_
      refine lv_iload_n hx hb dX9_primeSign_14 rfl (lv_at hl 1 rfl) ?_
      refine lv_iload_n hx hb dX9_primeSign_15 rfl (lv_at hl 2 rfl) ?_
      obtain ⟨q_16, hc_16, hM⟩ := bd_some hM
      refine w_callV cx hP hD hS hA (c_X9_finds g l h_t h_t_now h_t_read h_t_past h_t_text h_t_part h_t_matrix h_t_power h_t_product h_t_poly h_t_old h_t_step h_t_column h_t_moved h_t_traces h_t_signed h_t_plus h_t_minus h_t_walk p1 p2 t_saved t_letters t_stage t_size a_t_now a_t_walk hc_16) [0, 1, 2] rfl (by decide) rfl [ob h_t 9 [.ref h_t_now, .ref h_t_read, .ref h_t_past, .int t_saved, .ref h_t_text, .int t_letters, .int t_stage, .ref h_t_part, .int t_size, .ref h_t_matrix, .ref h_t_power, .ref h_t_product, .ref h_t_poly, .ref h_t_old, .ref h_t_step, .ref h_t_column, .ref h_t_moved, .ref h_t_traces, .ref h_t_signed, .ref h_t_plus, .ref h_t_minus, .ref h_t_walk], aI g h_t_now 29 a_t_now, aI g h_t_walk 5 q_16.2] rfl 0 9 rfl rfl yq_X9_finds rfl m_879 m_881 m_32 m_51 m_882 ⟨Nat.le_of_ble_eq_true rfl, Nat.le_of_ble_eq_true rfl⟩ rfl rfl hl.1 (Nat.le_of_ble_eq_true rfl) dX9_primeSign_16 ⟨Nat.le_refl 0, Nat.le_refl 0⟩ rfl (fun H locs hP hD hS => ?_)
      refine lv_if_ne (tgt := 24) hx hb dX9_primeSign_19 (by decide) (fun c_19 => ?_) (fun c_19 => ?_)
      · have hM := if_f hM c_19
        refine lv_iconst (v := (nI 1)) hx hb dX9_primeSign_24 (by decide) ?_
        refine lv_istore_n (lv' := [(3, .int (nI 1)), (0, .ref h_t), (1, .int p1), (2, .int p2)]) hx hb dX9_primeSign_25 rfl hl (by decide) rfl (fun ls hl => ?_)
        refine lv_iconst (v := (nI 0)) hx hb dX9_primeSign_26 (by decide) ?_
        refine lv_istore (lv' := [(4, .int (nI 0)), (3, .int (nI 1)), (0, .ref h_t), (1, .int p1), (2, .int p2)]) hx hb dX9_primeSign_27 hl (by decide) rfl (fun ls hl => ?_)
        obtain ⟨r_29, hw, hM⟩ := bd_some hM
        obtain ⟨n, hn⟩ := wh_some hw
        clear hw
        have hE_29_0 : ∀ (H : Heap) (locs : List Loc) (ls : Array Slot), va_P (gD g) vwCl [ob h_t 9 [.ref h_t_now, .ref h_t_read, .ref h_t_past, .int t_saved, .ref h_t_text, .int t_letters, .int t_stage, .ref h_t_part, .int t_size, .ref h_t_matrix, .ref h_t_power, .ref h_t_product, .ref h_t_poly, .ref h_t_old, .ref h_t_step, .ref h_t_column, .ref h_t_moved, .ref h_t_traces, .ref h_t_signed, .ref h_t_plus, .ref h_t_minus, .ref h_t_walk], aI g h_t_now 29 a_t_now, aI g h_t_walk 5 q_16.2] H → va_D A [ob h_t 9 [.ref h_t_now, .ref h_t_read, .ref h_t_past, .int t_saved, .ref h_t_text, .int t_letters, .int t_stage, .ref h_t_part, .int t_size, .ref h_t_matrix, .ref h_t_power, .ref h_t_product, .ref h_t_poly, .ref h_t_old, .ref h_t_step, .ref h_t_column, .ref h_t_moved, .ref h_t_traces, .ref h_t_signed, .ref h_t_plus, .ref h_t_minus, .ref h_t_walk], aI g h_t_now 29 a_t_now, aI g h_t_walk 5 q_16.2] → va_S A s.heap H locs → lv_has ls 5 [(3, .int r_29)] → W p l e (rmv 4 92) s m args below meth c H locs 0 0 Q (F0 m 55 ls []) := by
          intro H locs ls hP hD hS hl
          refine lv_iload_n hx hb dX9_primeSign_55 rfl (lv_at hl 0 rfl) ?_
          obtain rfl := Option.some.inj hM
          exact hfin 56 _ _ _ dX9_primeSign_56 hP hD hS
        clear hM
        have hL_29 : ∀ (n : Nat) (z_29 : Int32 × Int32), it (b_X9_primeSign_29 p1 t_saved t_letters t_stage t_size a_t_now q_16) n z_29 = some r_29 → ∀ (H : Heap) (locs : List Loc) (ls : Array Slot), va_P (gD g) vwCl [ob h_t 9 [.ref h_t_now, .ref h_t_read, .ref h_t_past, .int t_saved, .ref h_t_text, .int t_letters, .int t_stage, .ref h_t_part, .int t_size, .ref h_t_matrix, .ref h_t_power, .ref h_t_product, .ref h_t_poly, .ref h_t_old, .ref h_t_step, .ref h_t_column, .ref h_t_moved, .ref h_t_traces, .ref h_t_signed, .ref h_t_plus, .ref h_t_minus, .ref h_t_walk], aI g h_t_now 29 a_t_now, aI g h_t_walk 5 q_16.2] H → va_D A [ob h_t 9 [.ref h_t_now, .ref h_t_read, .ref h_t_past, .int t_saved, .ref h_t_text, .int t_letters, .int t_stage, .ref h_t_part, .int t_size, .ref h_t_matrix, .ref h_t_power, .ref h_t_product, .ref h_t_poly, .ref h_t_old, .ref h_t_step, .ref h_t_column, .ref h_t_moved, .ref h_t_traces, .ref h_t_signed, .ref h_t_plus, .ref h_t_minus, .ref h_t_walk], aI g h_t_now 29 a_t_now, aI g h_t_walk 5 q_16.2] → va_S A s.heap H locs → lv_has ls 5 [(4, .int z_29.1), (3, .int z_29.2), (0, .ref h_t), (1, .int p1)] → W p l e (rmv 4 92) s m args below meth c H locs 0 0 Q (F0 m 29 ls []) := by
          intro n
          induction n with
          | zero => intro z_29 hn; exact (it_zero hn).elim
          | succ n ih =>
            intro z_29 hn H locs ls hP hD hS hl
            obtain ⟨x, hM, hX⟩ := it_succ hn
            clear hn
            refine lv_iload hx hb dX9_primeSign_29 (lv_at hl 0 rfl) ?_
            refine lv_iload_n hx hb dX9_primeSign_31 rfl (lv_at hl 3 rfl) ?_
            refine lv_icmp_ge (tgt := 55) hx hb dX9_primeSign_32 (by decide) (fun c_32 => ?_) (fun c_32 => ?_)
            · have hM := if_t hM c_32
              obtain rfl := Option.some.inj hM
              obtain rfl : _ = r_29 := hX
              exact hE_29_0 _ _ _ hP hD hS (lv_sub hl [1] rfl)
            · have hM := if_f hM c_32
              refine lv_iload_n hx hb dX9_primeSign_35 rfl (lv_at hl 1 rfl) ?_
              refine lv_aload_n hx hb dX9_primeSign_36 rfl (lv_at hl 2 rfl) ?_
              refine lv_aload_n hx hb dX9_primeSign_37 rfl (lv_at hl 2 rfl) ?_
              refine w_get cx hP 0 9 21 rfl rfl (by decide) m_665 rfl rfl dX9_primeSign_38 ?_
              refine lv_iload hx hb dX9_primeSign_41 (lv_at hl 0 rfl) ?_
              obtain ⟨g_43, hM⟩ := gd_some hM
              refine w_iald cx hP 2 rfl g_43 dX9_primeSign_43 ?_
              obtain ⟨q_44, hc_44, hM⟩ := bd_some hM
              refine w_callV cx hP hD hS hA (c_X9_signOf g l h_t h_t_now h_t_read h_t_past h_t_text h_t_part h_t_matrix h_t_power h_t_product h_t_poly h_t_old h_t_step h_t_column h_t_moved h_t_traces h_t_signed h_t_plus h_t_minus h_t_walk (q_16.2 z_29.1.toNatClampNeg) t_saved t_letters t_stage t_size a_t_now hc_44) [0, 1] rfl (by decide) rfl [ob h_t 9 [.ref h_t_now, .ref h_t_read, .ref h_t_past, .int t_saved, .ref h_t_text, .int t_letters, .int t_stage, .ref h_t_part, .int t_size, .ref h_t_matrix, .ref h_t_power, .ref h_t_product, .ref h_t_poly, .ref h_t_old, .ref h_t_step, .ref h_t_column, .ref h_t_moved, .ref h_t_traces, .ref h_t_signed, .ref h_t_plus, .ref h_t_minus, .ref h_t_walk], aI g h_t_now 29 a_t_now, aI g h_t_walk 5 q_16.2] rfl 0 9 rfl rfl yq_X9_signOf rfl m_818 m_820 m_26 m_51 m_821 ⟨Nat.le_of_ble_eq_true rfl, Nat.le_of_ble_eq_true rfl⟩ rfl rfl hl.1 (Nat.le_of_ble_eq_true rfl) dX9_primeSign_44 ⟨Nat.le_refl 0, Nat.le_refl 0⟩ rfl (fun H locs hP hD hS => ?_)
              refine lv_imul hx hb dX9_primeSign_47 ?_
              refine lv_topi (fun x_48 ex_48 => ?_)
              have hM := nm_some hM x_48 ex_48
              refine lv_istore_n (lv' := [(3, .int x_48), (4, .int z_29.1), (0, .ref h_t), (1, .int p1)]) hx hb dX9_primeSign_48 rfl hl (by decide) rfl (fun ls hl => ?_)
              refine lv_iinc (v := z_29.1 + (nI 1)) (lv' := [(4, .int (z_29.1 + (nI 1))), (3, .int x_48), (0, .ref h_t), (1, .int p1)]) hx hb dX9_primeSign_49 hl (k := 1) rfl (congrArg (fun q => z_29.1 + q) (show Int32.ofInt (1) = (nI 1) by decide)) (by decide) rfl (fun ls hl => ?_)
              refine lv_goto (tgt := 29) hx hb dX9_primeSign_52 (by decide) ?_
              obtain rfl := Option.some.inj hM
              exact ih _ hX _ _ _ hP hD hS (lv_sub hl [0, 1, 2, 3] rfl)
        exact hL_29 n _ hn _ _ _ hP hD hS (lv_sub hl [0, 1, 2, 3] rfl)
      · have hM := if_t hM c_19
        refine lv_iconst (v := (nI 0)) hx hb dX9_primeSign_22 (by decide) ?_
        obtain rfl := Option.some.inj hM
        exact hfin 23 _ _ _ dX9_primeSign_23 hP hD hS
noncomputable def f_X9_edgeCoefficient (p1 : Int32) (t_saved : Int32) (t_letters : Int32) (t_stage : Int32) (t_size : Int32) (a_t_now : Nat → Int32) (a_t_matrix : Nat → Int64) (a_t_poly : Nat → Int64) (a_t_old : Nat → Int64) (a_t_step : Nat → Int64) (a_t_column : Nat → Int64) (a_t_moved : Nat → Int64) : Option (Int64 × Int32 × (Nat → Int64) × (Nat → Int64) × (Nat → Int64) × (Nat → Int64) × (Nat → Int64) × (Nat → Int64)) :=
  bd (f_X9_in p1 (nI 0) (nI 18)) (fun (q_4 : Int32) => if q_4 = 0 then some ((-9223372036854775808 : Int64), t_size, a_t_matrix, a_t_poly, a_t_old, a_t_step, a_t_column, a_t_moved) else bd (f_X9_laysEdgePoly t_saved t_letters t_stage t_size a_t_now a_t_matrix a_t_poly a_t_old a_t_step a_t_column a_t_moved) (fun (q_15 : Int32 × (Nat → Int64) × (Nat → Int64) × (Nat → Int64) × (Nat → Int64) × (Nat → Int64) × (Nat → Int64)) => gd (inb p1 19) (some (q_15.2.2.1 p1.toNatClampNeg, q_15.1, q_15.2.1, q_15.2.2.1, q_15.2.2.2.1, q_15.2.2.2.2.1, q_15.2.2.2.2.2.1, q_15.2.2.2.2.2.2))))
theorem yq_X9_edgeCoefficient : yq yX9_edgeCoefficient 1 := by unfold yq; decide +kernel
set_option maxHeartbeats 4000000 in
set_option maxRecDepth 100000 in
theorem c_X9_edgeCoefficient (g : GG) (l : Launch) (h_t : Nat) (h_t_now : Nat) (h_t_read : Nat) (h_t_past : Nat) (h_t_text : Nat) (h_t_part : Nat) (h_t_matrix : Nat) (h_t_power : Nat) (h_t_product : Nat) (h_t_poly : Nat) (h_t_old : Nat) (h_t_step : Nat) (h_t_column : Nat) (h_t_moved : Nat) (h_t_traces : Nat) (h_t_signed : Nat) (h_t_plus : Nat) (h_t_minus : Nat) (h_t_walk : Nat) (p1 : Int32) (t_saved : Int32) (t_letters : Int32) (t_stage : Int32) (t_size : Int32) (a_t_now : Nat → Int32) (a_t_matrix : Nat → Int64) (a_t_poly : Nat → Int64) (a_t_old : Nat → Int64) (a_t_step : Nat → Int64) (a_t_column : Nat → Int64) (a_t_moved : Nat → Int64) {R : Int64 × Int32 × (Nat → Int64) × (Nat → Int64) × (Nat → Int64) × (Nat → Int64) × (Nat → Int64) × (Nat → Int64)} (hM : f_X9_edgeCoefficient p1 t_saved t_letters t_stage t_size a_t_now a_t_matrix a_t_poly a_t_old a_t_step a_t_column a_t_moved = some R) : CT g l yX9_edgeCoefficient cX9_edgeCoefficient 2 (some .long) 4 89 [.ref h_t, .int p1] [ob h_t 9 [.ref h_t_now, .ref h_t_read, .ref h_t_past, .int t_saved, .ref h_t_text, .int t_letters, .int t_stage, .ref h_t_part, .int t_size, .ref h_t_matrix, .ref h_t_power, .ref h_t_product, .ref h_t_poly, .ref h_t_old, .ref h_t_step, .ref h_t_column, .ref h_t_moved, .ref h_t_traces, .ref h_t_signed, .ref h_t_plus, .ref h_t_minus, .ref h_t_walk], aI g h_t_now 29 a_t_now, aJ g h_t_matrix 324 a_t_matrix, aJ g h_t_poly 19 a_t_poly, aJ g h_t_old 19 a_t_old, aJ g h_t_step 20 a_t_step, aJ g h_t_column 18 a_t_column, aJ g h_t_moved 18 a_t_moved] [ob h_t 9 [.ref h_t_now, .ref h_t_read, .ref h_t_past, .int t_saved, .ref h_t_text, .int t_letters, .int t_stage, .ref h_t_part, .int R.2.1, .ref h_t_matrix, .ref h_t_power, .ref h_t_product, .ref h_t_poly, .ref h_t_old, .ref h_t_step, .ref h_t_column, .ref h_t_moved, .ref h_t_traces, .ref h_t_signed, .ref h_t_plus, .ref h_t_minus, .ref h_t_walk], aI g h_t_now 29 a_t_now, aJ g h_t_matrix 324 R.2.2.1, aJ g h_t_poly 19 R.2.2.2.1, aJ g h_t_old 19 R.2.2.2.2.1, aJ g h_t_step 20 R.2.2.2.2.2.1, aJ g h_t_column 18 R.2.2.2.2.2.2.1, aJ g h_t_moved 18 R.2.2.2.2.2.2.2] (some (.long R.1)) := by
  refine ct_l (by decide +kernel) (Nat.le_of_ble_eq_true rfl) ?_
  intro p e s m args below meth c Q A ls cx hP hD hA hl hfin
  obtain ⟨hx, hb, hml, hown, hts, hK⟩ := id cx
  have hl : lv_has ls 2 [(0, .ref h_t), (1, .int p1)] := hl
  have hS : va_S A s.heap s.heap [] := va_S.rf
  refine lv_iload_n hx hb dX9_edgeCoefficient_0 rfl (lv_at hl 1 rfl) ?_
  refine lv_iconst (v := (nI 0)) hx hb dX9_edgeCoefficient_1 (by decide) ?_
  refine lv_bipush (v := (nI 18)) hx hb dX9_edgeCoefficient_2 (by decide) ?_
  obtain ⟨q_4, hc_4, hM⟩ := bd_some hM
  refine w_callS cx hP hD hS hA (c_X9_in g l p1 (nI 0) (nI 18) hc_4) [] rfl (by decide) rfl [ob h_t 9 [.ref h_t_now, .ref h_t_read, .ref h_t_past, .int t_saved, .ref h_t_text, .int t_letters, .int t_stage, .ref h_t_part, .int t_size, .ref h_t_matrix, .ref h_t_power, .ref h_t_product, .ref h_t_poly, .ref h_t_old, .ref h_t_step, .ref h_t_column, .ref h_t_moved, .ref h_t_traces, .ref h_t_signed, .ref h_t_plus, .ref h_t_minus, .ref h_t_walk], aI g h_t_now 29 a_t_now, aJ g h_t_matrix 324 a_t_matrix, aJ g h_t_poly 19 a_t_poly, aJ g h_t_old 19 a_t_old, aJ g h_t_step 20 a_t_step, aJ g h_t_column 18 a_t_column, aJ g h_t_moved 18 a_t_moved] rfl yq_X9_in m_715 m_716 m_51 m_717 ⟨Nat.le_of_ble_eq_true rfl, Nat.le_of_ble_eq_true rfl⟩ rfl rfl hl.1 (Nat.le_of_ble_eq_true rfl) dX9_edgeCoefficient_4 ⟨Nat.le_refl 0, Nat.le_refl 0⟩ rfl (fun H locs hP hD hS => ?_)
  refine lv_if_ne (tgt := 14) hx hb dX9_edgeCoefficient_7 (by decide) (fun c_7 => ?_) (fun c_7 => ?_)
  · have hM := if_f hM c_7
    refine lv_aload_n hx hb dX9_edgeCoefficient_14 rfl (lv_at hl 0 rfl) ?_
    obtain ⟨q_15, hc_15, hM⟩ := bd_some hM
    refine w_callV cx hP hD hS hA (c_X9_laysEdgePoly g l h_t h_t_now h_t_read h_t_past h_t_text h_t_part h_t_matrix h_t_power h_t_product h_t_poly h_t_old h_t_step h_t_column h_t_moved h_t_traces h_t_signed h_t_plus h_t_minus h_t_walk t_saved t_letters t_stage t_size a_t_now a_t_matrix a_t_poly a_t_old a_t_step a_t_column a_t_moved hc_15) [0, 1, 2, 3, 4, 5, 6, 7] rfl (by decide) rfl [ob h_t 9 [.ref h_t_now, .ref h_t_read, .ref h_t_past, .int t_saved, .ref h_t_text, .int t_letters, .int t_stage, .ref h_t_part, .int q_15.1, .ref h_t_matrix, .ref h_t_power, .ref h_t_product, .ref h_t_poly, .ref h_t_old, .ref h_t_step, .ref h_t_column, .ref h_t_moved, .ref h_t_traces, .ref h_t_signed, .ref h_t_plus, .ref h_t_minus, .ref h_t_walk], aI g h_t_now 29 a_t_now, aJ g h_t_matrix 324 q_15.2.1, aJ g h_t_poly 19 q_15.2.2.1, aJ g h_t_old 19 q_15.2.2.2.1, aJ g h_t_step 20 q_15.2.2.2.2.1, aJ g h_t_column 18 q_15.2.2.2.2.2.1, aJ g h_t_moved 18 q_15.2.2.2.2.2.2] rfl 0 9 rfl rfl yq_X9_laysEdgePoly rfl m_895 m_897 m_34 m_51 m_898 ⟨Nat.le_of_ble_eq_true rfl, Nat.le_of_ble_eq_true rfl⟩ rfl rfl hl.1 (Nat.le_of_ble_eq_true rfl) dX9_edgeCoefficient_15 ⟨Nat.le_refl 0, Nat.le_refl 0⟩ rfl (fun H locs hP hD hS => ?_)
    refine lv_aload_n hx hb dX9_edgeCoefficient_18 rfl (lv_at hl 0 rfl) ?_
    refine w_get cx hP 0 9 12 rfl rfl (by decide) m_656 rfl rfl dX9_edgeCoefficient_19 ?_
    refine lv_iload_n hx hb dX9_edgeCoefficient_22 rfl (lv_at hl 1 rfl) ?_
    obtain ⟨g_23, hM⟩ := gd_some hM
    refine w_lald cx hP 3 rfl g_23 dX9_edgeCoefficient_23 ?_
    obtain rfl := Option.some.inj hM
    exact hfin 24 _ _ _ dX9_edgeCoefficient_24 hP hD hS
  · have hM := if_t hM c_7
    refine lv_ldc2 hx hb hown (hts _ m_845) dX9_edgeCoefficient_10 ?_
    obtain rfl := Option.some.inj hM
    exact hfin 13 _ _ _ dX9_edgeCoefficient_13 hP hD hS
noncomputable def f_X9_signedCoefficient (p1 : Int32) (t_saved : Int32) (t_letters : Int32) (t_stage : Int32) (t_size : Int32) (a_t_now : Nat → Int32) (a_t_matrix : Nat → Int64) (a_t_poly : Nat → Int64) (a_t_old : Nat → Int64) (a_t_step : Nat → Int64) (a_t_column : Nat → Int64) (a_t_moved : Nat → Int64) : Option (Int64 × Int32 × (Nat → Int64) × (Nat → Int64) × (Nat → Int64) × (Nat → Int64) × (Nat → Int64) × (Nat → Int64)) :=
  bd (f_X9_in p1 (nI 0) (nI 18)) (fun (q_4 : Int32) => if q_4 = 0 then some ((-9223372036854775808 : Int64), t_size, a_t_matrix, a_t_poly, a_t_old, a_t_step, a_t_column, a_t_moved) else bd (f_X9_laysEdges (nI 1) t_saved t_letters t_stage t_size a_t_now a_t_matrix) (fun (q_16 : Int32 × (Nat → Int64)) => bd (f_X9_laysPoly t_saved t_letters t_stage q_16.1 q_16.2 a_t_poly a_t_old a_t_step a_t_column a_t_moved) (fun (q_20 : (Nat → Int64) × (Nat → Int64) × (Nat → Int64) × (Nat → Int64) × (Nat → Int64)) => gd (inb p1 19) (some (q_20.1 p1.toNatClampNeg, q_16.1, q_16.2, q_20.1, q_20.2.1, q_20.2.2.1, q_20.2.2.2.1, q_20.2.2.2.2)))))
theorem yq_X9_signedCoefficient : yq yX9_signedCoefficient 1 := by unfold yq; decide +kernel
set_option maxHeartbeats 4000000 in
set_option maxRecDepth 100000 in
theorem c_X9_signedCoefficient (g : GG) (l : Launch) (h_t : Nat) (h_t_now : Nat) (h_t_read : Nat) (h_t_past : Nat) (h_t_text : Nat) (h_t_part : Nat) (h_t_matrix : Nat) (h_t_power : Nat) (h_t_product : Nat) (h_t_poly : Nat) (h_t_old : Nat) (h_t_step : Nat) (h_t_column : Nat) (h_t_moved : Nat) (h_t_traces : Nat) (h_t_signed : Nat) (h_t_plus : Nat) (h_t_minus : Nat) (h_t_walk : Nat) (p1 : Int32) (t_saved : Int32) (t_letters : Int32) (t_stage : Int32) (t_size : Int32) (a_t_now : Nat → Int32) (a_t_matrix : Nat → Int64) (a_t_poly : Nat → Int64) (a_t_old : Nat → Int64) (a_t_step : Nat → Int64) (a_t_column : Nat → Int64) (a_t_moved : Nat → Int64) {R : Int64 × Int32 × (Nat → Int64) × (Nat → Int64) × (Nat → Int64) × (Nat → Int64) × (Nat → Int64) × (Nat → Int64)} (hM : f_X9_signedCoefficient p1 t_saved t_letters t_stage t_size a_t_now a_t_matrix a_t_poly a_t_old a_t_step a_t_column a_t_moved = some R) : CT g l yX9_signedCoefficient cX9_signedCoefficient 2 (some .long) 3 69 [.ref h_t, .int p1] [ob h_t 9 [.ref h_t_now, .ref h_t_read, .ref h_t_past, .int t_saved, .ref h_t_text, .int t_letters, .int t_stage, .ref h_t_part, .int t_size, .ref h_t_matrix, .ref h_t_power, .ref h_t_product, .ref h_t_poly, .ref h_t_old, .ref h_t_step, .ref h_t_column, .ref h_t_moved, .ref h_t_traces, .ref h_t_signed, .ref h_t_plus, .ref h_t_minus, .ref h_t_walk], aI g h_t_now 29 a_t_now, aJ g h_t_matrix 324 a_t_matrix, aJ g h_t_poly 19 a_t_poly, aJ g h_t_old 19 a_t_old, aJ g h_t_step 20 a_t_step, aJ g h_t_column 18 a_t_column, aJ g h_t_moved 18 a_t_moved] [ob h_t 9 [.ref h_t_now, .ref h_t_read, .ref h_t_past, .int t_saved, .ref h_t_text, .int t_letters, .int t_stage, .ref h_t_part, .int R.2.1, .ref h_t_matrix, .ref h_t_power, .ref h_t_product, .ref h_t_poly, .ref h_t_old, .ref h_t_step, .ref h_t_column, .ref h_t_moved, .ref h_t_traces, .ref h_t_signed, .ref h_t_plus, .ref h_t_minus, .ref h_t_walk], aI g h_t_now 29 a_t_now, aJ g h_t_matrix 324 R.2.2.1, aJ g h_t_poly 19 R.2.2.2.1, aJ g h_t_old 19 R.2.2.2.2.1, aJ g h_t_step 20 R.2.2.2.2.2.1, aJ g h_t_column 18 R.2.2.2.2.2.2.1, aJ g h_t_moved 18 R.2.2.2.2.2.2.2] (some (.long R.1)) := by
  refine ct_l (by decide +kernel) (Nat.le_of_ble_eq_true rfl) ?_
  intro p e s m args below meth c Q A ls cx hP hD hA hl hfin
  obtain ⟨hx, hb, hml, hown, hts, hK⟩ := id cx
  have hl : lv_has ls 2 [(0, .ref h_t), (1, .int p1)] := hl
  have hS : va_S A s.heap s.heap [] := va_S.rf
  refine lv_iload_n hx hb dX9_signedCoefficient_0 rfl (lv_at hl 1 rfl) ?_
  refine lv_iconst (v := (nI 0)) hx hb dX9_signedCoefficient_1 (by decide) ?_
  refine lv_bipush (v := (nI 18)) hx hb dX9_signedCoefficient_2 (by decide) ?_
  obtain ⟨q_4, hc_4, hM⟩ := bd_some hM
  refine w_callS cx hP hD hS hA (c_X9_in g l p1 (nI 0) (nI 18) hc_4) [] rfl (by decide) rfl [ob h_t 9 [.ref h_t_now, .ref h_t_read, .ref h_t_past, .int t_saved, .ref h_t_text, .int t_letters, .int t_stage, .ref h_t_part, .int t_size, .ref h_t_matrix, .ref h_t_power, .ref h_t_product, .ref h_t_poly, .ref h_t_old, .ref h_t_step, .ref h_t_column, .ref h_t_moved, .ref h_t_traces, .ref h_t_signed, .ref h_t_plus, .ref h_t_minus, .ref h_t_walk], aI g h_t_now 29 a_t_now, aJ g h_t_matrix 324 a_t_matrix, aJ g h_t_poly 19 a_t_poly, aJ g h_t_old 19 a_t_old, aJ g h_t_step 20 a_t_step, aJ g h_t_column 18 a_t_column, aJ g h_t_moved 18 a_t_moved] rfl yq_X9_in m_715 m_716 m_51 m_717 ⟨Nat.le_of_ble_eq_true rfl, Nat.le_of_ble_eq_true rfl⟩ rfl rfl hl.1 (Nat.le_of_ble_eq_true rfl) dX9_signedCoefficient_4 ⟨Nat.le_refl 0, Nat.le_refl 0⟩ rfl (fun H locs hP hD hS => ?_)
  refine lv_if_ne (tgt := 14) hx hb dX9_signedCoefficient_7 (by decide) (fun c_7 => ?_) (fun c_7 => ?_)
  · have hM := if_f hM c_7
    refine lv_aload_n hx hb dX9_signedCoefficient_14 rfl (lv_at hl 0 rfl) ?_
    refine lv_iconst (v := (nI 1)) hx hb dX9_signedCoefficient_15 (by decide) ?_
    obtain ⟨q_16, hc_16, hM⟩ := bd_some hM
    refine w_callV cx hP hD hS hA (c_X9_laysEdges g l h_t h_t_now h_t_read h_t_past h_t_text h_t_part h_t_matrix h_t_power h_t_product h_t_poly h_t_old h_t_step h_t_column h_t_moved h_t_traces h_t_signed h_t_plus h_t_minus h_t_walk (nI 1) t_saved t_letters t_stage t_size a_t_now a_t_matrix hc_16) [0, 1, 2] rfl (by decide) rfl [ob h_t 9 [.ref h_t_now, .ref h_t_read, .ref h_t_past, .int t_saved, .ref h_t_text, .int t_letters, .int t_stage, .ref h_t_part, .int q_16.1, .ref h_t_matrix, .ref h_t_power, .ref h_t_product, .ref h_t_poly, .ref h_t_old, .ref h_t_step, .ref h_t_column, .ref h_t_moved, .ref h_t_traces, .ref h_t_signed, .ref h_t_plus, .ref h_t_minus, .ref h_t_walk], aI g h_t_now 29 a_t_now, aJ g h_t_matrix 324 q_16.2, aJ g h_t_poly 19 a_t_poly, aJ g h_t_old 19 a_t_old, aJ g h_t_step 20 a_t_step, aJ g h_t_column 18 a_t_column, aJ g h_t_moved 18 a_t_moved] rfl 0 9 rfl rfl yq_X9_laysEdges rfl m_837 m_839 m_29 m_51 m_840 ⟨Nat.le_of_ble_eq_true rfl, Nat.le_of_ble_eq_true rfl⟩ rfl rfl hl.1 (Nat.le_of_ble_eq_true rfl) dX9_signedCoefficient_16 ⟨Nat.le_refl 0, Nat.le_refl 0⟩ rfl (fun H locs hP hD hS => ?_)
    refine lv_aload_n hx hb dX9_signedCoefficient_19 rfl (lv_at hl 0 rfl) ?_
    obtain ⟨q_20, hc_20, hM⟩ := bd_some hM
    refine w_callV cx hP hD hS hA (c_X9_laysPoly g l h_t h_t_now h_t_read h_t_past h_t_text h_t_part h_t_matrix h_t_power h_t_product h_t_poly h_t_old h_t_step h_t_column h_t_moved h_t_traces h_t_signed h_t_plus h_t_minus h_t_walk t_saved t_letters t_stage q_16.1 q_16.2 a_t_poly a_t_old a_t_step a_t_column a_t_moved hc_20) [0, 2, 3, 4, 5, 6, 7] rfl (by decide) rfl [ob h_t 9 [.ref h_t_now, .ref h_t_read, .ref h_t_past, .int t_saved, .ref h_t_text, .int t_letters, .int t_stage, .ref h_t_part, .int q_16.1, .ref h_t_matrix, .ref h_t_power, .ref h_t_product, .ref h_t_poly, .ref h_t_old, .ref h_t_step, .ref h_t_column, .ref h_t_moved, .ref h_t_traces, .ref h_t_signed, .ref h_t_plus, .ref h_t_minus, .ref h_t_walk], aI g h_t_now 29 a_t_now, aJ g h_t_matrix 324 q_16.2, aJ g h_t_poly 19 q_20.1, aJ g h_t_old 19 q_20.2.1, aJ g h_t_step 20 q_20.2.2.1, aJ g h_t_column 18 q_20.2.2.2.1, aJ g h_t_moved 18 q_20.2.2.2.2] rfl 0 9 rfl rfl yq_X9_laysPoly rfl m_899 m_901 m_35 m_51 m_902 ⟨Nat.le_of_ble_eq_true rfl, Nat.le_of_ble_eq_true rfl⟩ rfl rfl hl.1 (Nat.le_of_ble_eq_true rfl) dX9_signedCoefficient_20 ⟨Nat.le_refl 0, Nat.le_refl 0⟩ rfl (fun H locs hP hD hS => ?_)
    refine lv_aload_n hx hb dX9_signedCoefficient_23 rfl (lv_at hl 0 rfl) ?_
    refine w_get cx hP 0 9 12 rfl rfl (by decide) m_656 rfl rfl dX9_signedCoefficient_24 ?_
    refine lv_iload_n hx hb dX9_signedCoefficient_27 rfl (lv_at hl 1 rfl) ?_
    obtain ⟨g_28, hM⟩ := gd_some hM
    refine w_lald cx hP 3 rfl g_28 dX9_signedCoefficient_28 ?_
    obtain rfl := Option.some.inj hM
    exact hfin 29 _ _ _ dX9_signedCoefficient_29 hP hD hS
  · have hM := if_t hM c_7
    refine lv_ldc2 hx hb hown (hts _ m_845) dX9_signedCoefficient_10 ?_
    obtain rfl := Option.some.inj hM
    exact hfin 13 _ _ _ dX9_signedCoefficient_13 hP hD hS
noncomputable def f_X9_vertexCoefficient (p1 : Int32) (t_saved : Int32) (t_letters : Int32) (t_stage : Int32) (t_size : Int32) (a_t_now : Nat → Int32) (a_t_matrix : Nat → Int64) (a_t_poly : Nat → Int64) (a_t_old : Nat → Int64) (a_t_step : Nat → Int64) (a_t_column : Nat → Int64) (a_t_moved : Nat → Int64) : Option (Int64 × Int32 × (Nat → Int64) × (Nat → Int64) × (Nat → Int64) × (Nat → Int64) × (Nat → Int64) × (Nat → Int64)) :=
  bd (f_X9_in p1 (nI 0) (nI 12)) (fun (q_4 : Int32) => if q_4 = 0 then some ((-9223372036854775808 : Int64), t_size, a_t_matrix, a_t_poly, a_t_old, a_t_step, a_t_column, a_t_moved) else bd (f_X9_laysVertices t_saved t_letters t_stage t_size a_t_now a_t_matrix) (fun (q_15 : Int32 × (Nat → Int64)) => bd (f_X9_laysPoly t_saved t_letters t_stage q_15.1 q_15.2 a_t_poly a_t_old a_t_step a_t_column a_t_moved) (fun (q_19 : (Nat → Int64) × (Nat → Int64) × (Nat → Int64) × (Nat → Int64) × (Nat → Int64)) => gd (inb p1 19) (some (q_19.1 p1.toNatClampNeg, q_15.1, q_15.2, q_19.1, q_19.2.1, q_19.2.2.1, q_19.2.2.2.1, q_19.2.2.2.2)))))
theorem yq_X9_vertexCoefficient : yq yX9_vertexCoefficient 1 := by unfold yq; decide +kernel
set_option maxHeartbeats 4000000 in
set_option maxRecDepth 100000 in
theorem c_X9_vertexCoefficient (g : GG) (l : Launch) (h_t : Nat) (h_t_now : Nat) (h_t_read : Nat) (h_t_past : Nat) (h_t_text : Nat) (h_t_part : Nat) (h_t_matrix : Nat) (h_t_power : Nat) (h_t_product : Nat) (h_t_poly : Nat) (h_t_old : Nat) (h_t_step : Nat) (h_t_column : Nat) (h_t_moved : Nat) (h_t_traces : Nat) (h_t_signed : Nat) (h_t_plus : Nat) (h_t_minus : Nat) (h_t_walk : Nat) (p1 : Int32) (t_saved : Int32) (t_letters : Int32) (t_stage : Int32) (t_size : Int32) (a_t_now : Nat → Int32) (a_t_matrix : Nat → Int64) (a_t_poly : Nat → Int64) (a_t_old : Nat → Int64) (a_t_step : Nat → Int64) (a_t_column : Nat → Int64) (a_t_moved : Nat → Int64) {R : Int64 × Int32 × (Nat → Int64) × (Nat → Int64) × (Nat → Int64) × (Nat → Int64) × (Nat → Int64) × (Nat → Int64)} (hM : f_X9_vertexCoefficient p1 t_saved t_letters t_stage t_size a_t_now a_t_matrix a_t_poly a_t_old a_t_step a_t_column a_t_moved = some R) : CT g l yX9_vertexCoefficient cX9_vertexCoefficient 2 (some .long) 3 67 [.ref h_t, .int p1] [ob h_t 9 [.ref h_t_now, .ref h_t_read, .ref h_t_past, .int t_saved, .ref h_t_text, .int t_letters, .int t_stage, .ref h_t_part, .int t_size, .ref h_t_matrix, .ref h_t_power, .ref h_t_product, .ref h_t_poly, .ref h_t_old, .ref h_t_step, .ref h_t_column, .ref h_t_moved, .ref h_t_traces, .ref h_t_signed, .ref h_t_plus, .ref h_t_minus, .ref h_t_walk], aI g h_t_now 29 a_t_now, aJ g h_t_matrix 324 a_t_matrix, aJ g h_t_poly 19 a_t_poly, aJ g h_t_old 19 a_t_old, aJ g h_t_step 20 a_t_step, aJ g h_t_column 18 a_t_column, aJ g h_t_moved 18 a_t_moved] [ob h_t 9 [.ref h_t_now, .ref h_t_read, .ref h_t_past, .int t_saved, .ref h_t_text, .int t_letters, .int t_stage, .ref h_t_part, .int R.2.1, .ref h_t_matrix, .ref h_t_power, .ref h_t_product, .ref h_t_poly, .ref h_t_old, .ref h_t_step, .ref h_t_column, .ref h_t_moved, .ref h_t_traces, .ref h_t_signed, .ref h_t_plus, .ref h_t_minus, .ref h_t_walk], aI g h_t_now 29 a_t_now, aJ g h_t_matrix 324 R.2.2.1, aJ g h_t_poly 19 R.2.2.2.1, aJ g h_t_old 19 R.2.2.2.2.1, aJ g h_t_step 20 R.2.2.2.2.2.1, aJ g h_t_column 18 R.2.2.2.2.2.2.1, aJ g h_t_moved 18 R.2.2.2.2.2.2.2] (some (.long R.1)) := by
  refine ct_l (by decide +kernel) (Nat.le_of_ble_eq_true rfl) ?_
  intro p e s m args below meth c Q A ls cx hP hD hA hl hfin
  obtain ⟨hx, hb, hml, hown, hts, hK⟩ := id cx
  have hl : lv_has ls 2 [(0, .ref h_t), (1, .int p1)] := hl
  have hS : va_S A s.heap s.heap [] := va_S.rf
  refine lv_iload_n hx hb dX9_vertexCoefficient_0 rfl (lv_at hl 1 rfl) ?_
  refine lv_iconst (v := (nI 0)) hx hb dX9_vertexCoefficient_1 (by decide) ?_
  refine lv_bipush (v := (nI 12)) hx hb dX9_vertexCoefficient_2 (by decide) ?_
  obtain ⟨q_4, hc_4, hM⟩ := bd_some hM
  refine w_callS cx hP hD hS hA (c_X9_in g l p1 (nI 0) (nI 12) hc_4) [] rfl (by decide) rfl [ob h_t 9 [.ref h_t_now, .ref h_t_read, .ref h_t_past, .int t_saved, .ref h_t_text, .int t_letters, .int t_stage, .ref h_t_part, .int t_size, .ref h_t_matrix, .ref h_t_power, .ref h_t_product, .ref h_t_poly, .ref h_t_old, .ref h_t_step, .ref h_t_column, .ref h_t_moved, .ref h_t_traces, .ref h_t_signed, .ref h_t_plus, .ref h_t_minus, .ref h_t_walk], aI g h_t_now 29 a_t_now, aJ g h_t_matrix 324 a_t_matrix, aJ g h_t_poly 19 a_t_poly, aJ g h_t_old 19 a_t_old, aJ g h_t_step 20 a_t_step, aJ g h_t_column 18 a_t_column, aJ g h_t_moved 18 a_t_moved] rfl yq_X9_in m_715 m_716 m_51 m_717 ⟨Nat.le_of_ble_eq_true rfl, Nat.le_of_ble_eq_true rfl⟩ rfl rfl hl.1 (Nat.le_of_ble_eq_true rfl) dX9_vertexCoefficient_4 ⟨Nat.le_refl 0, Nat.le_refl 0⟩ rfl (fun H locs hP hD hS => ?_)
  refine lv_if_ne (tgt := 14) hx hb dX9_vertexCoefficient_7 (by decide) (fun c_7 => ?_) (fun c_7 => ?_)
  · have hM := if_f hM c_7
    refine lv_aload_n hx hb dX9_vertexCoefficient_14 rfl (lv_at hl 0 rfl) ?_
    obtain ⟨q_15, hc_15, hM⟩ := bd_some hM
    refine w_callV cx hP hD hS hA (c_X9_laysVertices g l h_t h_t_now h_t_read h_t_past h_t_text h_t_part h_t_matrix h_t_power h_t_product h_t_poly h_t_old h_t_step h_t_column h_t_moved h_t_traces h_t_signed h_t_plus h_t_minus h_t_walk t_saved t_letters t_stage t_size a_t_now a_t_matrix hc_15) [0, 1, 2] rfl (by decide) rfl [ob h_t 9 [.ref h_t_now, .ref h_t_read, .ref h_t_past, .int t_saved, .ref h_t_text, .int t_letters, .int t_stage, .ref h_t_part, .int q_15.1, .ref h_t_matrix, .ref h_t_power, .ref h_t_product, .ref h_t_poly, .ref h_t_old, .ref h_t_step, .ref h_t_column, .ref h_t_moved, .ref h_t_traces, .ref h_t_signed, .ref h_t_plus, .ref h_t_minus, .ref h_t_walk], aI g h_t_now 29 a_t_now, aJ g h_t_matrix 324 q_15.2, aJ g h_t_poly 19 a_t_poly, aJ g h_t_old 19 a_t_old, aJ g h_t_step 20 a_t_step, aJ g h_t_column 18 a_t_column, aJ g h_t_moved 18 a_t_moved] rfl 0 9 rfl rfl yq_X9_laysVertices rfl m_919 m_921 m_38 m_51 m_922 ⟨Nat.le_of_ble_eq_true rfl, Nat.le_of_ble_eq_true rfl⟩ rfl rfl hl.1 (Nat.le_of_ble_eq_true rfl) dX9_vertexCoefficient_15 ⟨Nat.le_refl 0, Nat.le_refl 0⟩ rfl (fun H locs hP hD hS => ?_)
    refine lv_aload_n hx hb dX9_vertexCoefficient_18 rfl (lv_at hl 0 rfl) ?_
    obtain ⟨q_19, hc_19, hM⟩ := bd_some hM
    refine w_callV cx hP hD hS hA (c_X9_laysPoly g l h_t h_t_now h_t_read h_t_past h_t_text h_t_part h_t_matrix h_t_power h_t_product h_t_poly h_t_old h_t_step h_t_column h_t_moved h_t_traces h_t_signed h_t_plus h_t_minus h_t_walk t_saved t_letters t_stage q_15.1 q_15.2 a_t_poly a_t_old a_t_step a_t_column a_t_moved hc_19) [0, 2, 3, 4, 5, 6, 7] rfl (by decide) rfl [ob h_t 9 [.ref h_t_now, .ref h_t_read, .ref h_t_past, .int t_saved, .ref h_t_text, .int t_letters, .int t_stage, .ref h_t_part, .int q_15.1, .ref h_t_matrix, .ref h_t_power, .ref h_t_product, .ref h_t_poly, .ref h_t_old, .ref h_t_step, .ref h_t_column, .ref h_t_moved, .ref h_t_traces, .ref h_t_signed, .ref h_t_plus, .ref h_t_minus, .ref h_t_walk], aI g h_t_now 29 a_t_now, aJ g h_t_matrix 324 q_15.2, aJ g h_t_poly 19 q_19.1, aJ g h_t_old 19 q_19.2.1, aJ g h_t_step 20 q_19.2.2.1, aJ g h_t_column 18 q_19.2.2.2.1, aJ g h_t_moved 18 q_19.2.2.2.2] rfl 0 9 rfl rfl yq_X9_laysPoly rfl m_899 m_901 m_35 m_51 m_902 ⟨Nat.le_of_ble_eq_true rfl, Nat.le_of_ble_eq_true rfl⟩ rfl rfl hl.1 (Nat.le_of_ble_eq_true rfl) dX9_vertexCoefficient_19 ⟨Nat.le_refl 0, Nat.le_refl 0⟩ rfl (fun H locs hP hD hS => ?_)
    refine lv_aload_n hx hb dX9_vertexCoefficient_22 rfl (lv_at hl 0 rfl) ?_
    refine w_get cx hP 0 9 12 rfl rfl (by decide) m_656 rfl rfl dX9_vertexCoefficient_23 ?_
    refine lv_iload_n hx hb dX9_vertexCoefficient_26 rfl (lv_at hl 1 rfl) ?_
    obtain ⟨g_27, hM⟩ := gd_some hM
    refine w_lald cx hP 3 rfl g_27 dX9_vertexCoefficient_27 ?_
    obtain rfl := Option.some.inj hM
    exact hfin 28 _ _ _ dX9_vertexCoefficient_28 hP hD hS
  · have hM := if_t hM c_7
    refine lv_ldc2 hx hb hown (hts _ m_845) dX9_vertexCoefficient_10 ?_
    obtain rfl := Option.some.inj hM
    exact hfin 13 _ _ _ dX9_vertexCoefficient_13 hP hD hS
noncomputable def f_X9_bassCoefficient (p1 : Int32) (t_saved : Int32) (t_letters : Int32) (t_stage : Int32) (t_size : Int32) (a_t_now : Nat → Int32) (a_t_matrix : Nat → Int64) (a_t_poly : Nat → Int64) (a_t_old : Nat → Int64) (a_t_step : Nat → Int64) (a_t_column : Nat → Int64) (a_t_moved : Nat → Int64) : Option (Int64 × Int32 × (Nat → Int64) × (Nat → Int64) × (Nat → Int64) × (Nat → Int64) × (Nat → Int64) × (Nat → Int64)) :=
  bd (f_X9_in p1 (nI 0) (nI 18)) (fun (q_4 : Int32) => if q_4 = 0 then some ((-9223372036854775808 : Int64), t_size, a_t_matrix, a_t_poly, a_t_old, a_t_step, a_t_column, a_t_moved) else bd (f_X9_laysBassPoly t_saved t_letters t_stage t_size a_t_now a_t_matrix a_t_poly a_t_old a_t_step a_t_column a_t_moved) (fun (q_15 : Int32 × (Nat → Int64) × (Nat → Int64) × (Nat → Int64) × (Nat → Int64) × (Nat → Int64) × (Nat → Int64)) => gd (inb p1 19) (some (q_15.2.2.1 p1.toNatClampNeg, q_15.1, q_15.2.1, q_15.2.2.1, q_15.2.2.2.1, q_15.2.2.2.2.1, q_15.2.2.2.2.2.1, q_15.2.2.2.2.2.2))))
theorem yq_X9_bassCoefficient : yq yX9_bassCoefficient 1 := by unfold yq; decide +kernel
set_option maxHeartbeats 4000000 in
set_option maxRecDepth 100000 in
theorem c_X9_bassCoefficient (g : GG) (l : Launch) (h_t : Nat) (h_t_now : Nat) (h_t_read : Nat) (h_t_past : Nat) (h_t_text : Nat) (h_t_part : Nat) (h_t_matrix : Nat) (h_t_power : Nat) (h_t_product : Nat) (h_t_poly : Nat) (h_t_old : Nat) (h_t_step : Nat) (h_t_column : Nat) (h_t_moved : Nat) (h_t_traces : Nat) (h_t_signed : Nat) (h_t_plus : Nat) (h_t_minus : Nat) (h_t_walk : Nat) (p1 : Int32) (t_saved : Int32) (t_letters : Int32) (t_stage : Int32) (t_size : Int32) (a_t_now : Nat → Int32) (a_t_matrix : Nat → Int64) (a_t_poly : Nat → Int64) (a_t_old : Nat → Int64) (a_t_step : Nat → Int64) (a_t_column : Nat → Int64) (a_t_moved : Nat → Int64) {R : Int64 × Int32 × (Nat → Int64) × (Nat → Int64) × (Nat → Int64) × (Nat → Int64) × (Nat → Int64) × (Nat → Int64)} (hM : f_X9_bassCoefficient p1 t_saved t_letters t_stage t_size a_t_now a_t_matrix a_t_poly a_t_old a_t_step a_t_column a_t_moved = some R) : CT g l yX9_bassCoefficient cX9_bassCoefficient 2 (some .long) 4 90 [.ref h_t, .int p1] [ob h_t 9 [.ref h_t_now, .ref h_t_read, .ref h_t_past, .int t_saved, .ref h_t_text, .int t_letters, .int t_stage, .ref h_t_part, .int t_size, .ref h_t_matrix, .ref h_t_power, .ref h_t_product, .ref h_t_poly, .ref h_t_old, .ref h_t_step, .ref h_t_column, .ref h_t_moved, .ref h_t_traces, .ref h_t_signed, .ref h_t_plus, .ref h_t_minus, .ref h_t_walk], aI g h_t_now 29 a_t_now, aJ g h_t_matrix 324 a_t_matrix, aJ g h_t_poly 19 a_t_poly, aJ g h_t_old 19 a_t_old, aJ g h_t_step 20 a_t_step, aJ g h_t_column 18 a_t_column, aJ g h_t_moved 18 a_t_moved] [ob h_t 9 [.ref h_t_now, .ref h_t_read, .ref h_t_past, .int t_saved, .ref h_t_text, .int t_letters, .int t_stage, .ref h_t_part, .int R.2.1, .ref h_t_matrix, .ref h_t_power, .ref h_t_product, .ref h_t_poly, .ref h_t_old, .ref h_t_step, .ref h_t_column, .ref h_t_moved, .ref h_t_traces, .ref h_t_signed, .ref h_t_plus, .ref h_t_minus, .ref h_t_walk], aI g h_t_now 29 a_t_now, aJ g h_t_matrix 324 R.2.2.1, aJ g h_t_poly 19 R.2.2.2.1, aJ g h_t_old 19 R.2.2.2.2.1, aJ g h_t_step 20 R.2.2.2.2.2.1, aJ g h_t_column 18 R.2.2.2.2.2.2.1, aJ g h_t_moved 18 R.2.2.2.2.2.2.2] (some (.long R.1)) := by
  refine ct_l (by decide +kernel) (Nat.le_of_ble_eq_true rfl) ?_
  intro p e s m args below meth c Q A ls cx hP hD hA hl hfin
  obtain ⟨hx, hb, hml, hown, hts, hK⟩ := id cx
  have hl : lv_has ls 2 [(0, .ref h_t), (1, .int p1)] := hl
  have hS : va_S A s.heap s.heap [] := va_S.rf
  refine lv_iload_n hx hb dX9_bassCoefficient_0 rfl (lv_at hl 1 rfl) ?_
  refine lv_iconst (v := (nI 0)) hx hb dX9_bassCoefficient_1 (by decide) ?_
  refine lv_bipush (v := (nI 18)) hx hb dX9_bassCoefficient_2 (by decide) ?_
  obtain ⟨q_4, hc_4, hM⟩ := bd_some hM
  refine w_callS cx hP hD hS hA (c_X9_in g l p1 (nI 0) (nI 18) hc_4) [] rfl (by decide) rfl [ob h_t 9 [.ref h_t_now, .ref h_t_read, .ref h_t_past, .int t_saved, .ref h_t_text, .int t_letters, .int t_stage, .ref h_t_part, .int t_size, .ref h_t_matrix, .ref h_t_power, .ref h_t_product, .ref h_t_poly, .ref h_t_old, .ref h_t_step, .ref h_t_column, .ref h_t_moved, .ref h_t_traces, .ref h_t_signed, .ref h_t_plus, .ref h_t_minus, .ref h_t_walk], aI g h_t_now 29 a_t_now, aJ g h_t_matrix 324 a_t_matrix, aJ g h_t_poly 19 a_t_poly, aJ g h_t_old 19 a_t_old, aJ g h_t_step 20 a_t_step, aJ g h_t_column 18 a_t_column, aJ g h_t_moved 18 a_t_moved] rfl yq_X9_in m_715 m_716 m_51 m_717 ⟨Nat.le_of_ble_eq_true rfl, Nat.le_of_ble_eq_true rfl⟩ rfl rfl hl.1 (Nat.le_of_ble_eq_true rfl) dX9_bassCoefficient_4 ⟨Nat.le_refl 0, Nat.le_refl 0⟩ rfl (fun H locs hP hD hS => ?_)
  refine lv_if_ne (tgt := 14) hx hb dX9_bassCoefficient_7 (by decide) (fun c_7 => ?_) (fun c_7 => ?_)
  · have hM := if_f hM c_7
    refine lv_aload_n hx hb dX9_bassCoefficient_14 rfl (lv_at hl 0 rfl) ?_
    obtain ⟨q_15, hc_15, hM⟩ := bd_some hM
    refine w_callV cx hP hD hS hA (c_X9_laysBassPoly g l h_t h_t_now h_t_read h_t_past h_t_text h_t_part h_t_matrix h_t_power h_t_product h_t_poly h_t_old h_t_step h_t_column h_t_moved h_t_traces h_t_signed h_t_plus h_t_minus h_t_walk t_saved t_letters t_stage t_size a_t_now a_t_matrix a_t_poly a_t_old a_t_step a_t_column a_t_moved hc_15) [0, 1, 2, 3, 4, 5, 6, 7] rfl (by decide) rfl [ob h_t 9 [.ref h_t_now, .ref h_t_read, .ref h_t_past, .int t_saved, .ref h_t_text, .int t_letters, .int t_stage, .ref h_t_part, .int q_15.1, .ref h_t_matrix, .ref h_t_power, .ref h_t_product, .ref h_t_poly, .ref h_t_old, .ref h_t_step, .ref h_t_column, .ref h_t_moved, .ref h_t_traces, .ref h_t_signed, .ref h_t_plus, .ref h_t_minus, .ref h_t_walk], aI g h_t_now 29 a_t_now, aJ g h_t_matrix 324 q_15.2.1, aJ g h_t_poly 19 q_15.2.2.1, aJ g h_t_old 19 q_15.2.2.2.1, aJ g h_t_step 20 q_15.2.2.2.2.1, aJ g h_t_column 18 q_15.2.2.2.2.2.1, aJ g h_t_moved 18 q_15.2.2.2.2.2.2] rfl 0 9 rfl rfl yq_X9_laysBassPoly rfl m_927 m_929 m_39 m_51 m_930 ⟨Nat.le_of_ble_eq_true rfl, Nat.le_of_ble_eq_true rfl⟩ rfl rfl hl.1 (Nat.le_of_ble_eq_true rfl) dX9_bassCoefficient_15 ⟨Nat.le_refl 0, Nat.le_refl 0⟩ rfl (fun H locs hP hD hS => ?_)
    refine lv_aload_n hx hb dX9_bassCoefficient_18 rfl (lv_at hl 0 rfl) ?_
    refine w_get cx hP 0 9 12 rfl rfl (by decide) m_656 rfl rfl dX9_bassCoefficient_19 ?_
    refine lv_iload_n hx hb dX9_bassCoefficient_22 rfl (lv_at hl 1 rfl) ?_
    obtain ⟨g_23, hM⟩ := gd_some hM
    refine w_lald cx hP 3 rfl g_23 dX9_bassCoefficient_23 ?_
    obtain rfl := Option.some.inj hM
    exact hfin 24 _ _ _ dX9_bassCoefficient_24 hP hD hS
  · have hM := if_t hM c_7
    refine lv_ldc2 hx hb hown (hts _ m_845) dX9_bassCoefficient_10 ?_
    obtain rfl := Option.some.inj hM
    exact hfin 13 _ _ _ dX9_bassCoefficient_13 hP hD hS
noncomputable def b_X9_zetaCoefficient_42 (q_15 : Int32 × (Nat → Int64) × (Nat → Int64) × (Nat → Int64) × (Nat → Int64) × (Nat → Int64) × (Nat → Int64)) (z_20 : Int32 × (Nat → Int64)) : Int32 × (Nat → Int64) → Option ((Int32 × (Nat → Int64)) ⊕ ((Nat → Int64))) := fun z_42 =>
  if z_20.1 < z_42.1 then some (.inr z_42.2) else gd (inb z_20.1 19) (gd (inb z_42.1 19) (gd (inb (z_20.1 - z_42.1) 19) (gd (inb z_20.1 19) (some (.inl (z_42.1 + (nI 1), vp_updL z_42.2 z_20.1.toNatClampNeg ((z_42.2 z_20.1.toNatClampNeg) - ((q_15.2.2.1 z_42.1.toNatClampNeg) * (z_42.2 (z_20.1 - z_42.1).toNatClampNeg)))))))))
noncomputable def b_X9_zetaCoefficient_20 (p1 : Int32) (q_15 : Int32 × (Nat → Int64) × (Nat → Int64) × (Nat → Int64) × (Nat → Int64) × (Nat → Int64) × (Nat → Int64)) : Int32 × (Nat → Int64) → Option ((Int32 × (Nat → Int64)) ⊕ ((Nat → Int64))) := fun z_20 =>
  if p1 < z_20.1 then some (.inr z_20.2) else bd (if z_20.1 = 0 then some (1 : Int64) else some (0 : Int64)) (fun (j_31 : Int64) => gd (inb z_20.1 19) (bd (wh (b_X9_zetaCoefficient_42 q_15 z_20) ((nI 1), vp_updL z_20.2 z_20.1.toNatClampNeg j_31)) (fun (r_42 : Nat → Int64) => some (.inl (z_20.1 + (nI 1), r_42)))))
noncomputable def f_X9_zetaCoefficient (p1 : Int32) (t_saved : Int32) (t_letters : Int32) (t_stage : Int32) (t_size : Int32) (a_t_now : Nat → Int32) (a_t_matrix : Nat → Int64) (a_t_poly : Nat → Int64) (a_t_old : Nat → Int64) (a_t_step : Nat → Int64) (a_t_column : Nat → Int64) (a_t_moved : Nat → Int64) : Option (Int64 × Int32 × (Nat → Int64) × (Nat → Int64) × (Nat → Int64) × (Nat → Int64) × (Nat → Int64) × (Nat → Int64)) :=
  bd (f_X9_in p1 (nI 0) (nI 12)) (fun (q_4 : Int32) => if q_4 = 0 then some ((-9223372036854775808 : Int64), t_size, a_t_matrix, a_t_poly, a_t_old, a_t_step, a_t_column, a_t_moved) else bd (f_X9_laysEdgePoly t_saved t_letters t_stage t_size a_t_now a_t_matrix a_t_poly a_t_old a_t_step a_t_column a_t_moved) (fun (q_15 : Int32 × (Nat → Int64) × (Nat → Int64) × (Nat → Int64) × (Nat → Int64) × (Nat → Int64) × (Nat → Int64)) => bd (wh (b_X9_zetaCoefficient_20 p1 q_15) ((nI 0), q_15.2.2.2.1)) (fun (r_20 : Nat → Int64) => gd (inb p1 19) (some (r_20 p1.toNatClampNeg, q_15.1, q_15.2.1, q_15.2.2.1, r_20, q_15.2.2.2.2.1, q_15.2.2.2.2.2.1, q_15.2.2.2.2.2.2)))))
theorem yq_X9_zetaCoefficient : yq yX9_zetaCoefficient 1 := by unfold yq; decide +kernel
set_option maxHeartbeats 4000000 in
set_option maxRecDepth 100000 in
theorem c_X9_zetaCoefficient (g : GG) (l : Launch) (h_t : Nat) (h_t_now : Nat) (h_t_read : Nat) (h_t_past : Nat) (h_t_text : Nat) (h_t_part : Nat) (h_t_matrix : Nat) (h_t_power : Nat) (h_t_product : Nat) (h_t_poly : Nat) (h_t_old : Nat) (h_t_step : Nat) (h_t_column : Nat) (h_t_moved : Nat) (h_t_traces : Nat) (h_t_signed : Nat) (h_t_plus : Nat) (h_t_minus : Nat) (h_t_walk : Nat) (p1 : Int32) (t_saved : Int32) (t_letters : Int32) (t_stage : Int32) (t_size : Int32) (a_t_now : Nat → Int32) (a_t_matrix : Nat → Int64) (a_t_poly : Nat → Int64) (a_t_old : Nat → Int64) (a_t_step : Nat → Int64) (a_t_column : Nat → Int64) (a_t_moved : Nat → Int64) {R : Int64 × Int32 × (Nat → Int64) × (Nat → Int64) × (Nat → Int64) × (Nat → Int64) × (Nat → Int64) × (Nat → Int64)} (hM : f_X9_zetaCoefficient p1 t_saved t_letters t_stage t_size a_t_now a_t_matrix a_t_poly a_t_old a_t_step a_t_column a_t_moved = some R) : CT g l yX9_zetaCoefficient cX9_zetaCoefficient 4 (some .long) 4 89 [.ref h_t, .int p1] [ob h_t 9 [.ref h_t_now, .ref h_t_read, .ref h_t_past, .int t_saved, .ref h_t_text, .int t_letters, .int t_stage, .ref h_t_part, .int t_size, .ref h_t_matrix, .ref h_t_power, .ref h_t_product, .ref h_t_poly, .ref h_t_old, .ref h_t_step, .ref h_t_column, .ref h_t_moved, .ref h_t_traces, .ref h_t_signed, .ref h_t_plus, .ref h_t_minus, .ref h_t_walk], aI g h_t_now 29 a_t_now, aJ g h_t_matrix 324 a_t_matrix, aJ g h_t_poly 19 a_t_poly, aJ g h_t_old 19 a_t_old, aJ g h_t_step 20 a_t_step, aJ g h_t_column 18 a_t_column, aJ g h_t_moved 18 a_t_moved] [ob h_t 9 [.ref h_t_now, .ref h_t_read, .ref h_t_past, .int t_saved, .ref h_t_text, .int t_letters, .int t_stage, .ref h_t_part, .int R.2.1, .ref h_t_matrix, .ref h_t_power, .ref h_t_product, .ref h_t_poly, .ref h_t_old, .ref h_t_step, .ref h_t_column, .ref h_t_moved, .ref h_t_traces, .ref h_t_signed, .ref h_t_plus, .ref h_t_minus, .ref h_t_walk], aI g h_t_now 29 a_t_now, aJ g h_t_matrix 324 R.2.2.1, aJ g h_t_poly 19 R.2.2.2.1, aJ g h_t_old 19 R.2.2.2.2.1, aJ g h_t_step 20 R.2.2.2.2.2.1, aJ g h_t_column 18 R.2.2.2.2.2.2.1, aJ g h_t_moved 18 R.2.2.2.2.2.2.2] (some (.long R.1)) := by
  refine ct_l (by decide +kernel) (Nat.le_of_ble_eq_true rfl) ?_
  intro p e s m args below meth c Q A ls cx hP hD hA hl hfin
  obtain ⟨hx, hb, hml, hown, hts, hK⟩ := id cx
  have hl : lv_has ls 4 [(0, .ref h_t), (1, .int p1)] := hl
  have hS : va_S A s.heap s.heap [] := va_S.rf
  refine lv_iload_n hx hb dX9_zetaCoefficient_0 rfl (lv_at hl 1 rfl) ?_
  refine lv_iconst (v := (nI 0)) hx hb dX9_zetaCoefficient_1 (by decide) ?_
  refine lv_bipush (v := (nI 12)) hx hb dX9_zetaCoefficient_2 (by decide) ?_
  obtain ⟨q_4, hc_4, hM⟩ := bd_some hM
  refine w_callS cx hP hD hS hA (c_X9_in g l p1 (nI 0) (nI 12) hc_4) [] rfl (by decide) rfl [ob h_t 9 [.ref h_t_now, .ref h_t_read, .ref h_t_past, .int t_saved, .ref h_t_text, .int t_letters, .int t_stage, .ref h_t_part, .int t_size, .ref h_t_matrix, .ref h_t_power, .ref h_t_product, .ref h_t_poly, .ref h_t_old, .ref h_t_step, .ref h_t_column, .ref h_t_moved, .ref h_t_traces, .ref h_t_signed, .ref h_t_plus, .ref h_t_minus, .ref h_t_walk], aI g h_t_now 29 a_t_now, aJ g h_t_matrix 324 a_t_matrix, aJ g h_t_poly 19 a_t_poly, aJ g h_t_old 19 a_t_old, aJ g h_t_step 20 a_t_step, aJ g h_t_column 18 a_t_column, aJ g h_t_moved 18 a_t_moved] rfl yq_X9_in m_715 m_716 m_51 m_717 ⟨Nat.le_of_ble_eq_true rfl, Nat.le_of_ble_eq_true rfl⟩ rfl rfl hl.1 (Nat.le_of_ble_eq_true rfl) dX9_zetaCoefficient_4 ⟨Nat.le_refl 0, Nat.le_refl 0⟩ rfl (fun H locs hP hD hS => ?_)
  refine lv_if_ne (tgt := 14) hx hb dX9_zetaCoefficient_7 (by decide) (fun c_7 => ?_) (fun c_7 => ?_)
  · have hM := if_f hM c_7
    refine lv_aload_n hx hb dX9_zetaCoefficient_14 rfl (lv_at hl 0 rfl) ?_
    obtain ⟨q_15, hc_15, hM⟩ := bd_some hM
    refine w_callV cx hP hD hS hA (c_X9_laysEdgePoly g l h_t h_t_now h_t_read h_t_past h_t_text h_t_part h_t_matrix h_t_power h_t_product h_t_poly h_t_old h_t_step h_t_column h_t_moved h_t_traces h_t_signed h_t_plus h_t_minus h_t_walk t_saved t_letters t_stage t_size a_t_now a_t_matrix a_t_poly a_t_old a_t_step a_t_column a_t_moved hc_15) [0, 1, 2, 3, 4, 5, 6, 7] rfl (by decide) rfl [ob h_t 9 [.ref h_t_now, .ref h_t_read, .ref h_t_past, .int t_saved, .ref h_t_text, .int t_letters, .int t_stage, .ref h_t_part, .int q_15.1, .ref h_t_matrix, .ref h_t_power, .ref h_t_product, .ref h_t_poly, .ref h_t_old, .ref h_t_step, .ref h_t_column, .ref h_t_moved, .ref h_t_traces, .ref h_t_signed, .ref h_t_plus, .ref h_t_minus, .ref h_t_walk], aI g h_t_now 29 a_t_now, aJ g h_t_matrix 324 q_15.2.1, aJ g h_t_poly 19 q_15.2.2.1, aJ g h_t_old 19 q_15.2.2.2.1, aJ g h_t_step 20 q_15.2.2.2.2.1, aJ g h_t_column 18 q_15.2.2.2.2.2.1, aJ g h_t_moved 18 q_15.2.2.2.2.2.2] rfl 0 9 rfl rfl yq_X9_laysEdgePoly rfl m_895 m_897 m_34 m_51 m_898 ⟨Nat.le_of_ble_eq_true rfl, Nat.le_of_ble_eq_true rfl⟩ rfl rfl hl.1 (Nat.le_of_ble_eq_true rfl) dX9_zetaCoefficient_15 ⟨Nat.le_refl 0, Nat.le_refl 0⟩ rfl (fun H locs hP hD hS => ?_)
    refine lv_iconst (v := (nI 0)) hx hb dX9_zetaCoefficient_18 (by decide) ?_
    refine lv_istore_n (lv' := [(2, .int (nI 0)), (0, .ref h_t), (1, .int p1)]) hx hb dX9_zetaCoefficient_19 rfl hl (by decide) rfl (fun ls hl => ?_)
    obtain ⟨r_20, hw, hM⟩ := bd_some hM
    obtain ⟨n, hn⟩ := wh_some hw
    clear hw
    have hE_20_0 : ∀ (H : Heap) (locs : List Loc) (ls : Array Slot), va_P (gD g) vwCl [ob h_t 9 [.ref h_t_now, .ref h_t_read, .ref h_t_past, .int t_saved, .ref h_t_text, .int t_letters, .int t_stage, .ref h_t_part, .int q_15.1, .ref h_t_matrix, .ref h_t_power, .ref h_t_product, .ref h_t_poly, .ref h_t_old, .ref h_t_step, .ref h_t_column, .ref h_t_moved, .ref h_t_traces, .ref h_t_signed, .ref h_t_plus, .ref h_t_minus, .ref h_t_walk], aI g h_t_now 29 a_t_now, aJ g h_t_matrix 324 q_15.2.1, aJ g h_t_poly 19 q_15.2.2.1, aJ g h_t_old 19 r_20, aJ g h_t_step 20 q_15.2.2.2.2.1, aJ g h_t_column 18 q_15.2.2.2.2.2.1, aJ g h_t_moved 18 q_15.2.2.2.2.2.2] H → va_D A [ob h_t 9 [.ref h_t_now, .ref h_t_read, .ref h_t_past, .int t_saved, .ref h_t_text, .int t_letters, .int t_stage, .ref h_t_part, .int q_15.1, .ref h_t_matrix, .ref h_t_power, .ref h_t_product, .ref h_t_poly, .ref h_t_old, .ref h_t_step, .ref h_t_column, .ref h_t_moved, .ref h_t_traces, .ref h_t_signed, .ref h_t_plus, .ref h_t_minus, .ref h_t_walk], aI g h_t_now 29 a_t_now, aJ g h_t_matrix 324 q_15.2.1, aJ g h_t_poly 19 q_15.2.2.1, aJ g h_t_old 19 r_20, aJ g h_t_step 20 q_15.2.2.2.2.1, aJ g h_t_column 18 q_15.2.2.2.2.2.1, aJ g h_t_moved 18 q_15.2.2.2.2.2.2] → va_S A s.heap H locs → lv_has ls 4 [(0, .ref h_t), (1, .int p1)] → W p l e (rmv 4 89) s m args below meth c H locs 0 0 Q (F0 m 83 ls []) := by
      intro H locs ls hP hD hS hl
      refine lv_aload_n hx hb dX9_zetaCoefficient_83 rfl (lv_at hl 0 rfl) ?_
      refine w_get cx hP 0 9 13 rfl rfl (by decide) m_657 rfl rfl dX9_zetaCoefficient_84 ?_
      refine lv_iload_n hx hb dX9_zetaCoefficient_87 rfl (lv_at hl 1 rfl) ?_
      obtain ⟨g_88, hM⟩ := gd_some hM
      refine w_lald cx hP 4 rfl g_88 dX9_zetaCoefficient_88 ?_
      obtain rfl := Option.some.inj hM
      exact hfin 89 _ _ _ dX9_zetaCoefficient_89 hP hD hS
    clear hM
    have hL_20 : ∀ (n : Nat) (z_20 : Int32 × (Nat → Int64)), it (b_X9_zetaCoefficient_20 p1 q_15) n z_20 = some r_20 → ∀ (H : Heap) (locs : List Loc) (ls : Array Slot), va_P (gD g) vwCl [ob h_t 9 [.ref h_t_now, .ref h_t_read, .ref h_t_past, .int t_saved, .ref h_t_text, .int t_letters, .int t_stage, .ref h_t_part, .int q_15.1, .ref h_t_matrix, .ref h_t_power, .ref h_t_product, .ref h_t_poly, .ref h_t_old, .ref h_t_step, .ref h_t_column, .ref h_t_moved, .ref h_t_traces, .ref h_t_signed, .ref h_t_plus, .ref h_t_minus, .ref h_t_walk], aI g h_t_now 29 a_t_now, aJ g h_t_matrix 324 q_15.2.1, aJ g h_t_poly 19 q_15.2.2.1, aJ g h_t_old 19 z_20.2, aJ g h_t_step 20 q_15.2.2.2.2.1, aJ g h_t_column 18 q_15.2.2.2.2.2.1, aJ g h_t_moved 18 q_15.2.2.2.2.2.2] H → va_D A [ob h_t 9 [.ref h_t_now, .ref h_t_read, .ref h_t_past, .int t_saved, .ref h_t_text, .int t_letters, .int t_stage, .ref h_t_part, .int q_15.1, .ref h_t_matrix, .ref h_t_power, .ref h_t_product, .ref h_t_poly, .ref h_t_old, .ref h_t_step, .ref h_t_column, .ref h_t_moved, .ref h_t_traces, .ref h_t_signed, .ref h_t_plus, .ref h_t_minus, .ref h_t_walk], aI g h_t_now 29 a_t_now, aJ g h_t_matrix 324 q_15.2.1, aJ g h_t_poly 19 q_15.2.2.1, aJ g h_t_old 19 z_20.2, aJ g h_t_step 20 q_15.2.2.2.2.1, aJ g h_t_column 18 q_15.2.2.2.2.2.1, aJ g h_t_moved 18 q_15.2.2.2.2.2.2] → va_S A s.heap H locs → lv_has ls 4 [(2, .int z_20.1), (0, .ref h_t), (1, .int p1)] → W p l e (rmv 4 89) s m args below meth c H locs 0 0 Q (F0 m 20 ls []) := by
      intro n
      induction n with
      | zero => intro z_20 hn; exact (it_zero hn).elim
      | succ n ih =>
        intro z_20 hn H locs ls hP hD hS hl
        obtain ⟨x, hM, hX⟩ := it_succ hn
        clear hn
        refine lv_iload_n hx hb dX9_zetaCoefficient_20 rfl (lv_at hl 0 rfl) ?_
        refine lv_iload_n hx hb dX9_zetaCoefficient_21 rfl (lv_at hl 2 rfl) ?_
        refine lv_icmp_gt (tgt := 83) hx hb dX9_zetaCoefficient_22 (by decide) (fun c_22 => ?_) (fun c_22 => ?_)
        · have hM := if_t hM c_22
          obtain rfl := Option.some.inj hM
          obtain rfl : _ = r_20 := hX
          exact hE_20_0 _ _ _ hP hD hS (lv_sub hl [1, 2] rfl)
        · have hM := if_f hM c_22
          refine lv_aload_n hx hb dX9_zetaCoefficient_25 rfl (lv_at hl 1 rfl) ?_
          refine w_get cx hP 0 9 13 rfl rfl (by decide) m_657 rfl rfl dX9_zetaCoefficient_26 ?_
          refine lv_iload_n hx hb dX9_zetaCoefficient_29 rfl (lv_at hl 0 rfl) ?_
          refine lv_iload_n hx hb dX9_zetaCoefficient_30 rfl (lv_at hl 0 rfl) ?_
          obtain ⟨j_31, hB, hM⟩ := bd_some hM
          have hJ_31 : ∀ (H : Heap) (locs : List Loc) (ls : Array Slot), va_P (gD g) vwCl [ob h_t 9 [.ref h_t_now, .ref h_t_read, .ref h_t_past, .int t_saved, .ref h_t_text, .int t_letters, .int t_stage, .ref h_t_part, .int q_15.1, .ref h_t_matrix, .ref h_t_power, .ref h_t_product, .ref h_t_poly, .ref h_t_old, .ref h_t_step, .ref h_t_column, .ref h_t_moved, .ref h_t_traces, .ref h_t_signed, .ref h_t_plus, .ref h_t_minus, .ref h_t_walk], aI g h_t_now 29 a_t_now, aJ g h_t_matrix 324 q_15.2.1, aJ g h_t_poly 19 q_15.2.2.1, aJ g h_t_old 19 z_20.2, aJ g h_t_step 20 q_15.2.2.2.2.1, aJ g h_t_column 18 q_15.2.2.2.2.2.1, aJ g h_t_moved 18 q_15.2.2.2.2.2.2] H → va_D A [ob h_t 9 [.ref h_t_now, .ref h_t_read, .ref h_t_past, .int t_saved, .ref h_t_text, .int t_letters, .int t_stage, .ref h_t_part, .int q_15.1, .ref h_t_matrix, .ref h_t_power, .ref h_t_product, .ref h_t_poly, .ref h_t_old, .ref h_t_step, .ref h_t_column, .ref h_t_moved, .ref h_t_traces, .ref h_t_signed, .ref h_t_plus, .ref h_t_minus, .ref h_t_walk], aI g h_t_now 29 a_t_now, aJ g h_t_matrix 324 q_15.2.1, aJ g h_t_poly 19 q_15.2.2.1, aJ g h_t_old 19 z_20.2, aJ g h_t_step 20 q_15.2.2.2.2.1, aJ g h_t_column 18 q_15.2.2.2.2.2.1, aJ g h_t_moved 18 q_15.2.2.2.2.2.2] → va_S A s.heap H locs → lv_has ls 4 [(2, .int z_20.1), (0, .ref h_t), (1, .int p1)] → W p l e (rmv 4 89) s m args below meth c H locs 0 0 Q (F0 m 39 ls [.long j_31, .int z_20.1, .ref h_t_old]) := by
            intro H locs ls hP hD hS hl
            obtain ⟨g_39, hM⟩ := gd_some hM
            refine w_last cx hP hD hS 4 rfl g_39 dX9_zetaCoefficient_39 [ob h_t 9 [.ref h_t_now, .ref h_t_read, .ref h_t_past, .int t_saved, .ref h_t_text, .int t_letters, .int t_stage, .ref h_t_part, .int q_15.1, .ref h_t_matrix, .ref h_t_power, .ref h_t_product, .ref h_t_poly, .ref h_t_old, .ref h_t_step, .ref h_t_column, .ref h_t_moved, .ref h_t_traces, .ref h_t_signed, .ref h_t_plus, .ref h_t_minus, .ref h_t_walk], aI g h_t_now 29 a_t_now, aJ g h_t_matrix 324 q_15.2.1, aJ g h_t_poly 19 q_15.2.2.1, aJ g h_t_old 19 (vp_updL z_20.2 z_20.1.toNatClampNeg j_31), aJ g h_t_step 20 q_15.2.2.2.2.1, aJ g h_t_column 18 q_15.2.2.2.2.2.1, aJ g h_t_moved 18 q_15.2.2.2.2.2.2] rfl (fun H locs hP hD hS => ?_)
            refine lv_iconst (v := (nI 1)) hx hb dX9_zetaCoefficient_40 (by decide) ?_
            refine lv_istore_n (lv' := [(3, .int (nI 1)), (2, .int z_20.1), (0, .ref h_t), (1, .int p1)]) hx hb dX9_zetaCoefficient_41 rfl hl (by decide) rfl (fun ls hl => ?_)
            obtain ⟨r_42, hw, hM⟩ := bd_some hM
            obtain ⟨n, hn⟩ := wh_some hw
            clear hw
            have hE_42_0 : ∀ (H : Heap) (locs : List Loc) (ls : Array Slot), va_P (gD g) vwCl [ob h_t 9 [.ref h_t_now, .ref h_t_read, .ref h_t_past, .int t_saved, .ref h_t_text, .int t_letters, .int t_stage, .ref h_t_part, .int q_15.1, .ref h_t_matrix, .ref h_t_power, .ref h_t_product, .ref h_t_poly, .ref h_t_old, .ref h_t_step, .ref h_t_column, .ref h_t_moved, .ref h_t_traces, .ref h_t_signed, .ref h_t_plus, .ref h_t_minus, .ref h_t_walk], aI g h_t_now 29 a_t_now, aJ g h_t_matrix 324 q_15.2.1, aJ g h_t_poly 19 q_15.2.2.1, aJ g h_t_old 19 r_42, aJ g h_t_step 20 q_15.2.2.2.2.1, aJ g h_t_column 18 q_15.2.2.2.2.2.1, aJ g h_t_moved 18 q_15.2.2.2.2.2.2] H → va_D A [ob h_t 9 [.ref h_t_now, .ref h_t_read, .ref h_t_past, .int t_saved, .ref h_t_text, .int t_letters, .int t_stage, .ref h_t_part, .int q_15.1, .ref h_t_matrix, .ref h_t_power, .ref h_t_product, .ref h_t_poly, .ref h_t_old, .ref h_t_step, .ref h_t_column, .ref h_t_moved, .ref h_t_traces, .ref h_t_signed, .ref h_t_plus, .ref h_t_minus, .ref h_t_walk], aI g h_t_now 29 a_t_now, aJ g h_t_matrix 324 q_15.2.1, aJ g h_t_poly 19 q_15.2.2.1, aJ g h_t_old 19 r_42, aJ g h_t_step 20 q_15.2.2.2.2.1, aJ g h_t_column 18 q_15.2.2.2.2.2.1, aJ g h_t_moved 18 q_15.2.2.2.2.2.2] → va_S A s.heap H locs → lv_has ls 4 [(2, .int z_20.1), (0, .ref h_t), (1, .int p1)] → W p l e (rmv 4 89) s m args below meth c H locs 0 0 Q (F0 m 77 ls []) := by
              intro H locs ls hP hD hS hl
              refine lv_iinc (v := z_20.1 + (nI 1)) (lv' := [(2, .int (z_20.1 + (nI 1))), (0, .ref h_t), (1, .int p1)]) hx hb dX9_zetaCoefficient_77 hl (k := 0) rfl (congrArg (fun q => z_20.1 + q) (show Int32.ofInt (1) = (nI 1) by decide)) (by decide) rfl (fun ls hl => ?_)
              refine lv_goto (tgt := 20) hx hb dX9_zetaCoefficient_80 (by decide) ?_
              obtain rfl := Option.some.inj hM
              exact ih _ hX _ _ _ hP hD hS (lv_sub hl [0, 1, 2] rfl)
            clear hM
            have hL_42 : ∀ (n : Nat) (z_42 : Int32 × (Nat → Int64)), it (b_X9_zetaCoefficient_42 q_15 z_20) n z_42 = some r_42 → ∀ (H : Heap) (locs : List Loc) (ls : Array Slot), va_P (gD g) vwCl [ob h_t 9 [.ref h_t_now, .ref h_t_read, .ref h_t_past, .int t_saved, .ref h_t_text, .int t_letters, .int t_stage, .ref h_t_part, .int q_15.1, .ref h_t_matrix, .ref h_t_power, .ref h_t_product, .ref h_t_poly, .ref h_t_old, .ref h_t_step, .ref h_t_column, .ref h_t_moved, .ref h_t_traces, .ref h_t_signed, .ref h_t_plus, .ref h_t_minus, .ref h_t_walk], aI g h_t_now 29 a_t_now, aJ g h_t_matrix 324 q_15.2.1, aJ g h_t_poly 19 q_15.2.2.1, aJ g h_t_old 19 z_42.2, aJ g h_t_step 20 q_15.2.2.2.2.1, aJ g h_t_column 18 q_15.2.2.2.2.2.1, aJ g h_t_moved 18 q_15.2.2.2.2.2.2] H → va_D A [ob h_t 9 [.ref h_t_now, .ref h_t_read, .ref h_t_past, .int t_saved, .ref h_t_text, .int t_letters, .int t_stage, .ref h_t_part, .int q_15.1, .ref h_t_matrix, .ref h_t_power, .ref h_t_product, .ref h_t_poly, .ref h_t_old, .ref h_t_step, .ref h_t_column, .ref h_t_moved, .ref h_t_traces, .ref h_t_signed, .ref h_t_plus, .ref h_t_minus, .ref h_t_walk], aI g h_t_now 29 a_t_now, aJ g h_t_matrix 324 q_15.2.1, aJ g h_t_poly 19 q_15.2.2.1, aJ g h_t_old 19 z_42.2, aJ g h_t_step 20 q_15.2.2.2.2.1, aJ g h_t_column 18 q_15.2.2.2.2.2.1, aJ g h_t_moved 18 q_15.2.2.2.2.2.2] → va_S A s.heap H locs → lv_has ls 4 [(3, .int z_42.1), (2, .int z_20.1), (0, .ref h_t), (1, .int p1)] → W p l e (rmv 4 89) s m args below meth c H locs 0 0 Q (F0 m 42 ls []) := by
              intro n
              induction n with
              | zero => intro z_42 hn; exact (it_zero hn).elim
              | succ n ih =>
                intro z_42 hn H locs ls hP hD hS hl
                obtain ⟨x, hM, hX⟩ := it_succ hn
                clear hn
                refine lv_iload_n hx hb dX9_zetaCoefficient_42 rfl (lv_at hl 0 rfl) ?_
                refine lv_iload_n hx hb dX9_zetaCoefficient_43 rfl (lv_at hl 1 rfl) ?_
                refine lv_icmp_gt (tgt := 77) hx hb dX9_zetaCoefficient_44 (by decide) (fun c_44 => ?_) (fun c_44 => ?_)
                · have hM := if_t hM c_44
                  obtain rfl := Option.some.inj hM
                  obtain rfl : _ = r_42 := hX
                  exact hE_42_0 _ _ _ hP hD hS (lv_sub hl [1, 2, 3] rfl)
                · have hM := if_f hM c_44
                  refine lv_aload_n hx hb dX9_zetaCoefficient_47 rfl (lv_at hl 2 rfl) ?_
                  refine w_get cx hP 0 9 13 rfl rfl (by decide) m_657 rfl rfl dX9_zetaCoefficient_48 ?_
                  refine lv_iload_n hx hb dX9_zetaCoefficient_51 rfl (lv_at hl 1 rfl) ?_
                  refine lv_dup2_11 hx hb dX9_zetaCoefficient_52 rfl rfl ?_
                  obtain ⟨g_53, hM⟩ := gd_some hM
                  refine w_lald cx hP 4 rfl g_53 dX9_zetaCoefficient_53 ?_
                  refine lv_aload_n hx hb dX9_zetaCoefficient_54 rfl (lv_at hl 2 rfl) ?_
                  refine w_get cx hP 0 9 12 rfl rfl (by decide) m_656 rfl rfl dX9_zetaCoefficient_55 ?_
                  refine lv_iload_n hx hb dX9_zetaCoefficient_58 rfl (lv_at hl 0 rfl) ?_
                  obtain ⟨g_59, hM⟩ := gd_some hM
                  refine w_lald cx hP 3 rfl g_59 dX9_zetaCoefficient_59 ?_
                  refine lv_aload_n hx hb dX9_zetaCoefficient_60 rfl (lv_at hl 2 rfl) ?_
                  refine w_get cx hP 0 9 13 rfl rfl (by decide) m_657 rfl rfl dX9_zetaCoefficient_61 ?_
                  refine lv_iload_n hx hb dX9_zetaCoefficient_64 rfl (lv_at hl 1 rfl) ?_
                  refine lv_iload_n hx hb dX9_zetaCoefficient_65 rfl (lv_at hl 0 rfl) ?_
                  refine lv_isub hx hb dX9_zetaCoefficient_66 ?_
                  obtain ⟨g_67, hM⟩ := gd_some hM
                  refine w_lald cx hP 4 rfl g_67 dX9_zetaCoefficient_67 ?_
                  refine lv_lmul hx hb dX9_zetaCoefficient_68 ?_
                  refine lv_lsub hx hb dX9_zetaCoefficient_69 ?_
                  obtain ⟨g_70, hM⟩ := gd_some hM
                  refine w_last cx hP hD hS 4 rfl g_70 dX9_zetaCoefficient_70 [ob h_t 9 [.ref h_t_now, .ref h_t_read, .ref h_t_past, .int t_saved, .ref h_t_text, .int t_letters, .int t_stage, .ref h_t_part, .int q_15.1, .ref h_t_matrix, .ref h_t_power, .ref h_t_product, .ref h_t_poly, .ref h_t_old, .ref h_t_step, .ref h_t_column, .ref h_t_moved, .ref h_t_traces, .ref h_t_signed, .ref h_t_plus, .ref h_t_minus, .ref h_t_walk], aI g h_t_now 29 a_t_now, aJ g h_t_matrix 324 q_15.2.1, aJ g h_t_poly 19 q_15.2.2.1, aJ g h_t_old 19 (vp_updL z_42.2 z_20.1.toNatClampNeg ((z_42.2 z_20.1.toNatClampNeg) - ((q_15.2.2.1 z_42.1.toNatClampNeg) * (z_42.2 (z_20.1 - z_42.1).toNatClampNeg)))), aJ g h_t_step 20 q_15.2.2.2.2.1, aJ g h_t_column 18 q_15.2.2.2.2.2.1, aJ g h_t_moved 18 q_15.2.2.2.2.2.2] rfl (fun H locs hP hD hS => ?_)
                  refine lv_iinc (v := z_42.1 + (nI 1)) (lv' := [(3, .int (z_42.1 + (nI 1))), (2, .int z_20.1), (0, .ref h_t), (1, .int p1)]) hx hb dX9_zetaCoefficient_71 hl (k := 0) rfl (congrArg (fun q => z_42.1 + q) (show Int32.ofInt (1) = (nI 1) by decide)) (by decide) rfl (fun ls hl => ?_)
                  refine lv_goto (tgt := 42) hx hb dX9_zetaCoefficient_74 (by decide) ?_
                  obtain rfl := Option.some.inj hM
                  exact ih _ hX _ _ _ hP hD hS (lv_sub hl [0, 1, 2, 3] rfl)
            exact hL_42 n _ hn _ _ _ hP hD hS (lv_sub hl [0, 1, 2, 3] rfl)
          clear hM
          have hM := hB
          clear hB
          refine lv_if_ne (tgt := 38) hx hb dX9_zetaCoefficient_31 (by decide) (fun c_31 => ?_) (fun c_31 => ?_)
          · have hM := if_f hM c_31
            refine lv_lconst (v := (0 : Int64)) hx hb dX9_zetaCoefficient_38 (by decide) ?_
            obtain rfl := Option.some.inj hM
            exact hJ_31 _ _ _ hP hD hS (lv_sub hl [0, 1, 2] rfl)
          · have hM := if_t hM c_31
            refine lv_lconst (v := (1 : Int64)) hx hb dX9_zetaCoefficient_34 (by decide) ?_
            refine lv_goto (tgt := 39) hx hb dX9_zetaCoefficient_35 (by decide) ?_
            obtain rfl := Option.some.inj hM
            exact hJ_31 _ _ _ hP hD hS (lv_sub hl [0, 1, 2] rfl)
    exact hL_20 n _ hn _ _ _ hP hD hS (lv_sub hl [0, 1, 2] rfl)
  · have hM := if_t hM c_7
    refine lv_ldc2 hx hb hown (hts _ m_845) dX9_zetaCoefficient_10 ?_
    obtain rfl := Option.some.inj hM
    exact hfin 13 _ _ _ dX9_zetaCoefficient_13 hP hD hS
noncomputable def b_X9_edgeValue_24 (p1 : Int32) (q_15 : Int32 × (Nat → Int64) × (Nat → Int64) × (Nat → Int64) × (Nat → Int64) × (Nat → Int64) × (Nat → Int64)) : Int32 × Int64 → Option ((Int32 × Int64) ⊕ ((Int64))) := fun z_24 =>
  if z_24.1 < 0 then some (.inr z_24.2) else gd (inb z_24.1 19) (nm ((z_24.2 * p1.toInt64) + (q_15.2.2.1 z_24.1.toNatClampNeg)) (fun (x_41 : Int64) => nm (z_24.1 + (nI 4294967295)) (fun (x_42 : Int32) => some (.inl (x_42, x_41)))))
noncomputable def f_X9_edgeValue (p1 : Int32) (t_saved : Int32) (t_letters : Int32) (t_stage : Int32) (t_size : Int32) (a_t_now : Nat → Int32) (a_t_matrix : Nat → Int64) (a_t_poly : Nat → Int64) (a_t_old : Nat → Int64) (a_t_step : Nat → Int64) (a_t_column : Nat → Int64) (a_t_moved : Nat → Int64) : Option (Int64 × Int32 × (Nat → Int64) × (Nat → Int64) × (Nat → Int64) × (Nat → Int64) × (Nat → Int64) × (Nat → Int64)) :=
  bd (f_X9_in p1 (nI 4294967294) (nI 2)) (fun (q_4 : Int32) => if q_4 = 0 then some ((-9223372036854775808 : Int64), t_size, a_t_matrix, a_t_poly, a_t_old, a_t_step, a_t_column, a_t_moved) else bd (f_X9_laysEdgePoly t_saved t_letters t_stage t_size a_t_now a_t_matrix a_t_poly a_t_old a_t_step a_t_column a_t_moved) (fun (q_15 : Int32 × (Nat → Int64) × (Nat → Int64) × (Nat → Int64) × (Nat → Int64) × (Nat → Int64) × (Nat → Int64)) => bd (wh (b_X9_edgeValue_24 p1 q_15) ((nI 18), (0 : Int64))) (fun (r_24 : Int64) => some (r_24, q_15.1, q_15.2.1, q_15.2.2.1, q_15.2.2.2.1, q_15.2.2.2.2.1, q_15.2.2.2.2.2.1, q_15.2.2.2.2.2.2))))
theorem yq_X9_edgeValue : yq yX9_edgeValue 1 := by unfold yq; decide +kernel
set_option maxHeartbeats 4000000 in
set_option maxRecDepth 100000 in
theorem c_X9_edgeValue (g : GG) (l : Launch) (h_t : Nat) (h_t_now : Nat) (h_t_read : Nat) (h_t_past : Nat) (h_t_text : Nat) (h_t_part : Nat) (h_t_matrix : Nat) (h_t_power : Nat) (h_t_product : Nat) (h_t_poly : Nat) (h_t_old : Nat) (h_t_step : Nat) (h_t_column : Nat) (h_t_moved : Nat) (h_t_traces : Nat) (h_t_signed : Nat) (h_t_plus : Nat) (h_t_minus : Nat) (h_t_walk : Nat) (p1 : Int32) (t_saved : Int32) (t_letters : Int32) (t_stage : Int32) (t_size : Int32) (a_t_now : Nat → Int32) (a_t_matrix : Nat → Int64) (a_t_poly : Nat → Int64) (a_t_old : Nat → Int64) (a_t_step : Nat → Int64) (a_t_column : Nat → Int64) (a_t_moved : Nat → Int64) {R : Int64 × Int32 × (Nat → Int64) × (Nat → Int64) × (Nat → Int64) × (Nat → Int64) × (Nat → Int64) × (Nat → Int64)} (hM : f_X9_edgeValue p1 t_saved t_letters t_stage t_size a_t_now a_t_matrix a_t_poly a_t_old a_t_step a_t_column a_t_moved = some R) : CT g l yX9_edgeValue cX9_edgeValue 5 (some .long) 4 89 [.ref h_t, .int p1] [ob h_t 9 [.ref h_t_now, .ref h_t_read, .ref h_t_past, .int t_saved, .ref h_t_text, .int t_letters, .int t_stage, .ref h_t_part, .int t_size, .ref h_t_matrix, .ref h_t_power, .ref h_t_product, .ref h_t_poly, .ref h_t_old, .ref h_t_step, .ref h_t_column, .ref h_t_moved, .ref h_t_traces, .ref h_t_signed, .ref h_t_plus, .ref h_t_minus, .ref h_t_walk], aI g h_t_now 29 a_t_now, aJ g h_t_matrix 324 a_t_matrix, aJ g h_t_poly 19 a_t_poly, aJ g h_t_old 19 a_t_old, aJ g h_t_step 20 a_t_step, aJ g h_t_column 18 a_t_column, aJ g h_t_moved 18 a_t_moved] [ob h_t 9 [.ref h_t_now, .ref h_t_read, .ref h_t_past, .int t_saved, .ref h_t_text, .int t_letters, .int t_stage, .ref h_t_part, .int R.2.1, .ref h_t_matrix, .ref h_t_power, .ref h_t_product, .ref h_t_poly, .ref h_t_old, .ref h_t_step, .ref h_t_column, .ref h_t_moved, .ref h_t_traces, .ref h_t_signed, .ref h_t_plus, .ref h_t_minus, .ref h_t_walk], aI g h_t_now 29 a_t_now, aJ g h_t_matrix 324 R.2.2.1, aJ g h_t_poly 19 R.2.2.2.1, aJ g h_t_old 19 R.2.2.2.2.1, aJ g h_t_step 20 R.2.2.2.2.2.1, aJ g h_t_column 18 R.2.2.2.2.2.2.1, aJ g h_t_moved 18 R.2.2.2.2.2.2.2] (some (.long R.1)) := by
  refine ct_l (by decide +kernel) (Nat.le_of_ble_eq_true rfl) ?_
  intro p e s m args below meth c Q A ls cx hP hD hA hl hfin
  obtain ⟨hx, hb, hml, hown, hts, hK⟩ := id cx
  have hl : lv_has ls 5 [(0, .ref h_t), (1, .int p1)] := hl
  have hS : va_S A s.heap s.heap [] := va_S.rf
  refine lv_iload_n hx hb dX9_edgeValue_0 rfl (lv_at hl 1 rfl) ?_
  refine lv_bipush (v := (nI 4294967294)) hx hb dX9_edgeValue_1 (by decide) ?_
  refine lv_iconst (v := (nI 2)) hx hb dX9_edgeValue_3 (by decide) ?_
  obtain ⟨q_4, hc_4, hM⟩ := bd_some hM
  refine w_callS cx hP hD hS hA (c_X9_in g l p1 (nI 4294967294) (nI 2) hc_4) [] rfl (by decide) rfl [ob h_t 9 [.ref h_t_now, .ref h_t_read, .ref h_t_past, .int t_saved, .ref h_t_text, .int t_letters, .int t_stage, .ref h_t_part, .int t_size, .ref h_t_matrix, .ref h_t_power, .ref h_t_product, .ref h_t_poly, .ref h_t_old, .ref h_t_step, .ref h_t_column, .ref h_t_moved, .ref h_t_traces, .ref h_t_signed, .ref h_t_plus, .ref h_t_minus, .ref h_t_walk], aI g h_t_now 29 a_t_now, aJ g h_t_matrix 324 a_t_matrix, aJ g h_t_poly 19 a_t_poly, aJ g h_t_old 19 a_t_old, aJ g h_t_step 20 a_t_step, aJ g h_t_column 18 a_t_column, aJ g h_t_moved 18 a_t_moved] rfl yq_X9_in m_715 m_716 m_51 m_717 ⟨Nat.le_of_ble_eq_true rfl, Nat.le_of_ble_eq_true rfl⟩ rfl rfl hl.1 (Nat.le_of_ble_eq_true rfl) dX9_edgeValue_4 ⟨Nat.le_refl 0, Nat.le_refl 0⟩ rfl (fun H locs hP hD hS => ?_)
  refine lv_if_ne (tgt := 14) hx hb dX9_edgeValue_7 (by decide) (fun c_7 => ?_) (fun c_7 => ?_)
  · have hM := if_f hM c_7
    refine lv_aload_n hx hb dX9_edgeValue_14 rfl (lv_at hl 0 rfl) ?_
    obtain ⟨q_15, hc_15, hM⟩ := bd_some hM
    refine w_callV cx hP hD hS hA (c_X9_laysEdgePoly g l h_t h_t_now h_t_read h_t_past h_t_text h_t_part h_t_matrix h_t_power h_t_product h_t_poly h_t_old h_t_step h_t_column h_t_moved h_t_traces h_t_signed h_t_plus h_t_minus h_t_walk t_saved t_letters t_stage t_size a_t_now a_t_matrix a_t_poly a_t_old a_t_step a_t_column a_t_moved hc_15) [0, 1, 2, 3, 4, 5, 6, 7] rfl (by decide) rfl [ob h_t 9 [.ref h_t_now, .ref h_t_read, .ref h_t_past, .int t_saved, .ref h_t_text, .int t_letters, .int t_stage, .ref h_t_part, .int q_15.1, .ref h_t_matrix, .ref h_t_power, .ref h_t_product, .ref h_t_poly, .ref h_t_old, .ref h_t_step, .ref h_t_column, .ref h_t_moved, .ref h_t_traces, .ref h_t_signed, .ref h_t_plus, .ref h_t_minus, .ref h_t_walk], aI g h_t_now 29 a_t_now, aJ g h_t_matrix 324 q_15.2.1, aJ g h_t_poly 19 q_15.2.2.1, aJ g h_t_old 19 q_15.2.2.2.1, aJ g h_t_step 20 q_15.2.2.2.2.1, aJ g h_t_column 18 q_15.2.2.2.2.2.1, aJ g h_t_moved 18 q_15.2.2.2.2.2.2] rfl 0 9 rfl rfl yq_X9_laysEdgePoly rfl m_895 m_897 m_34 m_51 m_898 ⟨Nat.le_of_ble_eq_true rfl, Nat.le_of_ble_eq_true rfl⟩ rfl rfl hl.1 (Nat.le_of_ble_eq_true rfl) dX9_edgeValue_15 ⟨Nat.le_refl 0, Nat.le_refl 0⟩ rfl (fun H locs hP hD hS => ?_)
    refine lv_lconst (v := (0 : Int64)) hx hb dX9_edgeValue_18 (by decide) ?_
    refine lv_lstore_n (lv' := [(2, .long (0 : Int64)), (0, .ref h_t), (1, .int p1)]) hx hb dX9_edgeValue_19 rfl hl (by decide) rfl (fun ls hl => ?_)
    refine lv_bipush (v := (nI 18)) hx hb dX9_edgeValue_20 (by decide) ?_
    refine lv_istore (lv' := [(4, .int (nI 18)), (2, .long (0 : Int64)), (0, .ref h_t), (1, .int p1)]) hx hb dX9_edgeValue_22 hl (by decide) rfl (fun ls hl => ?_)
    obtain ⟨r_24, hw, hM⟩ := bd_some hM
    obtain ⟨n, hn⟩ := wh_some hw
    clear hw
    have hE_24_0 : ∀ (H : Heap) (locs : List Loc) (ls : Array Slot), va_P (gD g) vwCl [ob h_t 9 [.ref h_t_now, .ref h_t_read, .ref h_t_past, .int t_saved, .ref h_t_text, .int t_letters, .int t_stage, .ref h_t_part, .int q_15.1, .ref h_t_matrix, .ref h_t_power, .ref h_t_product, .ref h_t_poly, .ref h_t_old, .ref h_t_step, .ref h_t_column, .ref h_t_moved, .ref h_t_traces, .ref h_t_signed, .ref h_t_plus, .ref h_t_minus, .ref h_t_walk], aI g h_t_now 29 a_t_now, aJ g h_t_matrix 324 q_15.2.1, aJ g h_t_poly 19 q_15.2.2.1, aJ g h_t_old 19 q_15.2.2.2.1, aJ g h_t_step 20 q_15.2.2.2.2.1, aJ g h_t_column 18 q_15.2.2.2.2.2.1, aJ g h_t_moved 18 q_15.2.2.2.2.2.2] H → va_D A [ob h_t 9 [.ref h_t_now, .ref h_t_read, .ref h_t_past, .int t_saved, .ref h_t_text, .int t_letters, .int t_stage, .ref h_t_part, .int q_15.1, .ref h_t_matrix, .ref h_t_power, .ref h_t_product, .ref h_t_poly, .ref h_t_old, .ref h_t_step, .ref h_t_column, .ref h_t_moved, .ref h_t_traces, .ref h_t_signed, .ref h_t_plus, .ref h_t_minus, .ref h_t_walk], aI g h_t_now 29 a_t_now, aJ g h_t_matrix 324 q_15.2.1, aJ g h_t_poly 19 q_15.2.2.1, aJ g h_t_old 19 q_15.2.2.2.1, aJ g h_t_step 20 q_15.2.2.2.2.1, aJ g h_t_column 18 q_15.2.2.2.2.2.1, aJ g h_t_moved 18 q_15.2.2.2.2.2.2] → va_S A s.heap H locs → lv_has ls 5 [(2, .long r_24)] → W p l e (rmv 4 89) s m args below meth c H locs 0 0 Q (F0 m 48 ls []) := by
      intro H locs ls hP hD hS hl
      refine lv_lload_n hx hb dX9_edgeValue_48 rfl (lv_at hl 0 rfl) ?_
      obtain rfl := Option.some.inj hM
      exact hfin 49 _ _ _ dX9_edgeValue_49 hP hD hS
    clear hM
    have hL_24 : ∀ (n : Nat) (z_24 : Int32 × Int64), it (b_X9_edgeValue_24 p1 q_15) n z_24 = some r_24 → ∀ (H : Heap) (locs : List Loc) (ls : Array Slot), va_P (gD g) vwCl [ob h_t 9 [.ref h_t_now, .ref h_t_read, .ref h_t_past, .int t_saved, .ref h_t_text, .int t_letters, .int t_stage, .ref h_t_part, .int q_15.1, .ref h_t_matrix, .ref h_t_power, .ref h_t_product, .ref h_t_poly, .ref h_t_old, .ref h_t_step, .ref h_t_column, .ref h_t_moved, .ref h_t_traces, .ref h_t_signed, .ref h_t_plus, .ref h_t_minus, .ref h_t_walk], aI g h_t_now 29 a_t_now, aJ g h_t_matrix 324 q_15.2.1, aJ g h_t_poly 19 q_15.2.2.1, aJ g h_t_old 19 q_15.2.2.2.1, aJ g h_t_step 20 q_15.2.2.2.2.1, aJ g h_t_column 18 q_15.2.2.2.2.2.1, aJ g h_t_moved 18 q_15.2.2.2.2.2.2] H → va_D A [ob h_t 9 [.ref h_t_now, .ref h_t_read, .ref h_t_past, .int t_saved, .ref h_t_text, .int t_letters, .int t_stage, .ref h_t_part, .int q_15.1, .ref h_t_matrix, .ref h_t_power, .ref h_t_product, .ref h_t_poly, .ref h_t_old, .ref h_t_step, .ref h_t_column, .ref h_t_moved, .ref h_t_traces, .ref h_t_signed, .ref h_t_plus, .ref h_t_minus, .ref h_t_walk], aI g h_t_now 29 a_t_now, aJ g h_t_matrix 324 q_15.2.1, aJ g h_t_poly 19 q_15.2.2.1, aJ g h_t_old 19 q_15.2.2.2.1, aJ g h_t_step 20 q_15.2.2.2.2.1, aJ g h_t_column 18 q_15.2.2.2.2.2.1, aJ g h_t_moved 18 q_15.2.2.2.2.2.2] → va_S A s.heap H locs → lv_has ls 5 [(4, .int z_24.1), (2, .long z_24.2), (0, .ref h_t), (1, .int p1)] → W p l e (rmv 4 89) s m args below meth c H locs 0 0 Q (F0 m 24 ls []) := by
      intro n
      induction n with
      | zero => intro z_24 hn; exact (it_zero hn).elim
      | succ n ih =>
        intro z_24 hn H locs ls hP hD hS hl
        obtain ⟨x, hM, hX⟩ := it_succ hn
        clear hn
        refine lv_iload hx hb dX9_edgeValue_24 (lv_at hl 0 rfl) ?_
        refine lv_if_lt (tgt := 48) hx hb dX9_edgeValue_26 (by decide) (fun c_26 => ?_) (fun c_26 => ?_)
        · have hM := if_t hM c_26
          obtain rfl := Option.some.inj hM
          obtain rfl : _ = r_24 := hX
          exact hE_24_0 _ _ _ hP hD hS (lv_sub hl [1] rfl)
        · have hM := if_f hM c_26
          refine lv_lload_n hx hb dX9_edgeValue_29 rfl (lv_at hl 1 rfl) ?_
          refine lv_iload_n hx hb dX9_edgeValue_30 rfl (lv_at hl 3 rfl) ?_
          refine lv_i2l (v := p1.toInt64) hx hb dX9_edgeValue_31 rfl ?_
          refine lv_lmul hx hb dX9_edgeValue_32 ?_
          refine lv_aload_n hx hb dX9_edgeValue_33 rfl (lv_at hl 2 rfl) ?_
          refine w_get cx hP 0 9 12 rfl rfl (by decide) m_656 rfl rfl dX9_edgeValue_34 ?_
          refine lv_iload hx hb dX9_edgeValue_37 (lv_at hl 0 rfl) ?_
          obtain ⟨g_39, hM⟩ := gd_some hM
          refine w_lald cx hP 3 rfl g_39 dX9_edgeValue_39 ?_
          refine lv_ladd hx hb dX9_edgeValue_40 ?_
          refine lv_topl (fun x_41 ex_41 => ?_)
          have hM := nm_some hM x_41 ex_41
          refine lv_lstore_n (lv' := [(2, .long x_41), (4, .int z_24.1), (0, .ref h_t), (1, .int p1)]) hx hb dX9_edgeValue_41 rfl hl (by decide) rfl (fun ls hl => ?_)
          obtain ⟨x_42, ex_42⟩ : ∃ q : Int32, q = z_24.1 + (nI 4294967295) := ⟨_, rfl⟩
          have hM := nm_some hM x_42 ex_42
          refine lv_iinc (v := x_42) (lv' := [(4, .int x_42), (2, .long x_41), (0, .ref h_t), (1, .int p1)]) hx hb dX9_edgeValue_42 hl (k := 1) rfl ((congrArg (fun q => z_24.1 + q) (show Int32.ofInt (-1) = (nI 4294967295) by decide)).trans ex_42.symm) (by decide) rfl (fun ls hl => ?_)
          refine lv_goto (tgt := 24) hx hb dX9_edgeValue_45 (by decide) ?_
          obtain rfl := Option.some.inj hM
          exact ih _ hX _ _ _ hP hD hS (lv_sub hl [0, 1, 2, 3] rfl)
    exact hL_24 n _ hn _ _ _ hP hD hS (lv_sub hl [0, 1, 2, 3] rfl)
  · have hM := if_t hM c_7
    refine lv_ldc2 hx hb hown (hts _ m_845) dX9_edgeValue_10 ?_
    obtain rfl := Option.some.inj hM
    exact hfin 13 _ _ _ dX9_edgeValue_13 hP hD hS
noncomputable def b_X9_taylorAtOne_28 (z_20 : Int32 × (Nat → Int64)) : Int32 × (Nat → Int64) → Option ((Int32 × (Nat → Int64)) ⊕ ((Nat → Int64))) := fun z_28 =>
  if z_28.1 < z_20.1 then some (.inr z_28.2) else gd (inb z_28.1 19) (gd (inb (z_28.1 + (nI 1)) 19) (gd (inb z_28.1 19) (nm (z_28.1 + (nI 4294967295)) (fun (x_50 : Int32) => some (.inl (x_50, vp_updL z_28.2 z_28.1.toNatClampNeg ((z_28.2 z_28.1.toNatClampNeg) + (z_28.2 (z_28.1 + (nI 1)).toNatClampNeg))))))))
noncomputable def b_X9_taylorAtOne_20 (p1 : Int32) : Int32 × (Nat → Int64) → Option ((Int32 × (Nat → Int64)) ⊕ ((Nat → Int64))) := fun z_20 =>
  if p1 < z_20.1 then some (.inr z_20.2) else bd (wh (b_X9_taylorAtOne_28 z_20) ((nI 17), z_20.2)) (fun (r_28 : Nat → Int64) => some (.inl (z_20.1 + (nI 1), r_28)))
noncomputable def f_X9_taylorAtOne (p1 : Int32) (t_saved : Int32) (t_letters : Int32) (t_stage : Int32) (t_size : Int32) (a_t_now : Nat → Int32) (a_t_matrix : Nat → Int64) (a_t_poly : Nat → Int64) (a_t_old : Nat → Int64) (a_t_step : Nat → Int64) (a_t_column : Nat → Int64) (a_t_moved : Nat → Int64) : Option (Int64 × Int32 × (Nat → Int64) × (Nat → Int64) × (Nat → Int64) × (Nat → Int64) × (Nat → Int64) × (Nat → Int64)) :=
  bd (f_X9_in p1 (nI 0) (nI 18)) (fun (q_4 : Int32) => if q_4 = 0 then some ((-9223372036854775808 : Int64), t_size, a_t_matrix, a_t_poly, a_t_old, a_t_step, a_t_column, a_t_moved) else bd (f_X9_laysEdgePoly t_saved t_letters t_stage t_size a_t_now a_t_matrix a_t_poly a_t_old a_t_step a_t_column a_t_moved) (fun (q_15 : Int32 × (Nat → Int64) × (Nat → Int64) × (Nat → Int64) × (Nat → Int64) × (Nat → Int64) × (Nat → Int64)) => bd (wh (b_X9_taylorAtOne_20 p1) ((nI 0), q_15.2.2.1)) (fun (r_20 : Nat → Int64) => gd (inb p1 19) (some (r_20 p1.toNatClampNeg, q_15.1, q_15.2.1, r_20, q_15.2.2.2.1, q_15.2.2.2.2.1, q_15.2.2.2.2.2.1, q_15.2.2.2.2.2.2)))))
theorem yq_X9_taylorAtOne : yq yX9_taylorAtOne 1 := by unfold yq; decide +kernel
set_option maxHeartbeats 4000000 in
set_option maxRecDepth 100000 in
theorem c_X9_taylorAtOne (g : GG) (l : Launch) (h_t : Nat) (h_t_now : Nat) (h_t_read : Nat) (h_t_past : Nat) (h_t_text : Nat) (h_t_part : Nat) (h_t_matrix : Nat) (h_t_power : Nat) (h_t_product : Nat) (h_t_poly : Nat) (h_t_old : Nat) (h_t_step : Nat) (h_t_column : Nat) (h_t_moved : Nat) (h_t_traces : Nat) (h_t_signed : Nat) (h_t_plus : Nat) (h_t_minus : Nat) (h_t_walk : Nat) (p1 : Int32) (t_saved : Int32) (t_letters : Int32) (t_stage : Int32) (t_size : Int32) (a_t_now : Nat → Int32) (a_t_matrix : Nat → Int64) (a_t_poly : Nat → Int64) (a_t_old : Nat → Int64) (a_t_step : Nat → Int64) (a_t_column : Nat → Int64) (a_t_moved : Nat → Int64) {R : Int64 × Int32 × (Nat → Int64) × (Nat → Int64) × (Nat → Int64) × (Nat → Int64) × (Nat → Int64) × (Nat → Int64)} (hM : f_X9_taylorAtOne p1 t_saved t_letters t_stage t_size a_t_now a_t_matrix a_t_poly a_t_old a_t_step a_t_column a_t_moved = some R) : CT g l yX9_taylorAtOne cX9_taylorAtOne 4 (some .long) 4 89 [.ref h_t, .int p1] [ob h_t 9 [.ref h_t_now, .ref h_t_read, .ref h_t_past, .int t_saved, .ref h_t_text, .int t_letters, .int t_stage, .ref h_t_part, .int t_size, .ref h_t_matrix, .ref h_t_power, .ref h_t_product, .ref h_t_poly, .ref h_t_old, .ref h_t_step, .ref h_t_column, .ref h_t_moved, .ref h_t_traces, .ref h_t_signed, .ref h_t_plus, .ref h_t_minus, .ref h_t_walk], aI g h_t_now 29 a_t_now, aJ g h_t_matrix 324 a_t_matrix, aJ g h_t_poly 19 a_t_poly, aJ g h_t_old 19 a_t_old, aJ g h_t_step 20 a_t_step, aJ g h_t_column 18 a_t_column, aJ g h_t_moved 18 a_t_moved] [ob h_t 9 [.ref h_t_now, .ref h_t_read, .ref h_t_past, .int t_saved, .ref h_t_text, .int t_letters, .int t_stage, .ref h_t_part, .int R.2.1, .ref h_t_matrix, .ref h_t_power, .ref h_t_product, .ref h_t_poly, .ref h_t_old, .ref h_t_step, .ref h_t_column, .ref h_t_moved, .ref h_t_traces, .ref h_t_signed, .ref h_t_plus, .ref h_t_minus, .ref h_t_walk], aI g h_t_now 29 a_t_now, aJ g h_t_matrix 324 R.2.2.1, aJ g h_t_poly 19 R.2.2.2.1, aJ g h_t_old 19 R.2.2.2.2.1, aJ g h_t_step 20 R.2.2.2.2.2.1, aJ g h_t_column 18 R.2.2.2.2.2.2.1, aJ g h_t_moved 18 R.2.2.2.2.2.2.2] (some (.long R.1)) := by
  refine ct_l (by decide +kernel) (Nat.le_of_ble_eq_true rfl) ?_
  intro p e s m args below meth c Q A ls cx hP hD hA hl hfin
  obtain ⟨hx, hb, hml, hown, hts, hK⟩ := id cx
  have hl : lv_has ls 4 [(0, .ref h_t), (1, .int p1)] := hl
  have hS : va_S A s.heap s.heap [] := va_S.rf
  refine lv_iload_n hx hb dX9_taylorAtOne_0 rfl (lv_at hl 1 rfl) ?_
  refine lv_iconst (v := (nI 0)) hx hb dX9_taylorAtOne_1 (by decide) ?_
  refine lv_bipush (v := (nI 18)) hx hb dX9_taylorAtOne_2 (by decide) ?_
  obtain ⟨q_4, hc_4, hM⟩ := bd_some hM
  refine w_callS cx hP hD hS hA (c_X9_in g l p1 (nI 0) (nI 18) hc_4) [] rfl (by decide) rfl [ob h_t 9 [.ref h_t_now, .ref h_t_read, .ref h_t_past, .int t_saved, .ref h_t_text, .int t_letters, .int t_stage, .ref h_t_part, .int t_size, .ref h_t_matrix, .ref h_t_power, .ref h_t_product, .ref h_t_poly, .ref h_t_old, .ref h_t_step, .ref h_t_column, .ref h_t_moved, .ref h_t_traces, .ref h_t_signed, .ref h_t_plus, .ref h_t_minus, .ref h_t_walk], aI g h_t_now 29 a_t_now, aJ g h_t_matrix 324 a_t_matrix, aJ g h_t_poly 19 a_t_poly, aJ g h_t_old 19 a_t_old, aJ g h_t_step 20 a_t_step, aJ g h_t_column 18 a_t_column, aJ g h_t_moved 18 a_t_moved] rfl yq_X9_in m_715 m_716 m_51 m_717 ⟨Nat.le_of_ble_eq_true rfl, Nat.le_of_ble_eq_true rfl⟩ rfl rfl hl.1 (Nat.le_of_ble_eq_true rfl) dX9_taylorAtOne_4 ⟨Nat.le_refl 0, Nat.le_refl 0⟩ rfl (fun H locs hP hD hS => ?_)
  refine lv_if_ne (tgt := 14) hx hb dX9_taylorAtOne_7 (by decide) (fun c_7 => ?_) (fun c_7 => ?_)
  · have hM := if_f hM c_7
    refine lv_aload_n hx hb dX9_taylorAtOne_14 rfl (lv_at hl 0 rfl) ?_
    obtain ⟨q_15, hc_15, hM⟩ := bd_some hM
    refine w_callV cx hP hD hS hA (c_X9_laysEdgePoly g l h_t h_t_now h_t_read h_t_past h_t_text h_t_part h_t_matrix h_t_power h_t_product h_t_poly h_t_old h_t_step h_t_column h_t_moved h_t_traces h_t_signed h_t_plus h_t_minus h_t_walk t_saved t_letters t_stage t_size a_t_now a_t_matrix a_t_poly a_t_old a_t_step a_t_column a_t_moved hc_15) [0, 1, 2, 3, 4, 5, 6, 7] rfl (by decide) rfl [ob h_t 9 [.ref h_t_now, .ref h_t_read, .ref h_t_past, .int t_saved, .ref h_t_text, .int t_letters, .int t_stage, .ref h_t_part, .int q_15.1, .ref h_t_matrix, .ref h_t_power, .ref h_t_product, .ref h_t_poly, .ref h_t_old, .ref h_t_step, .ref h_t_column, .ref h_t_moved, .ref h_t_traces, .ref h_t_signed, .ref h_t_plus, .ref h_t_minus, .ref h_t_walk], aI g h_t_now 29 a_t_now, aJ g h_t_matrix 324 q_15.2.1, aJ g h_t_poly 19 q_15.2.2.1, aJ g h_t_old 19 q_15.2.2.2.1, aJ g h_t_step 20 q_15.2.2.2.2.1, aJ g h_t_column 18 q_15.2.2.2.2.2.1, aJ g h_t_moved 18 q_15.2.2.2.2.2.2] rfl 0 9 rfl rfl yq_X9_laysEdgePoly rfl m_895 m_897 m_34 m_51 m_898 ⟨Nat.le_of_ble_eq_true rfl, Nat.le_of_ble_eq_true rfl⟩ rfl rfl hl.1 (Nat.le_of_ble_eq_true rfl) dX9_taylorAtOne_15 ⟨Nat.le_refl 0, Nat.le_refl 0⟩ rfl (fun H locs hP hD hS => ?_)
    refine lv_iconst (v := (nI 0)) hx hb dX9_taylorAtOne_18 (by decide) ?_
    refine lv_istore_n (lv' := [(2, .int (nI 0)), (0, .ref h_t), (1, .int p1)]) hx hb dX9_taylorAtOne_19 rfl hl (by decide) rfl (fun ls hl => ?_)
    obtain ⟨r_20, hw, hM⟩ := bd_some hM
    obtain ⟨n, hn⟩ := wh_some hw
    clear hw
    have hE_20_0 : ∀ (H : Heap) (locs : List Loc) (ls : Array Slot), va_P (gD g) vwCl [ob h_t 9 [.ref h_t_now, .ref h_t_read, .ref h_t_past, .int t_saved, .ref h_t_text, .int t_letters, .int t_stage, .ref h_t_part, .int q_15.1, .ref h_t_matrix, .ref h_t_power, .ref h_t_product, .ref h_t_poly, .ref h_t_old, .ref h_t_step, .ref h_t_column, .ref h_t_moved, .ref h_t_traces, .ref h_t_signed, .ref h_t_plus, .ref h_t_minus, .ref h_t_walk], aI g h_t_now 29 a_t_now, aJ g h_t_matrix 324 q_15.2.1, aJ g h_t_poly 19 r_20, aJ g h_t_old 19 q_15.2.2.2.1, aJ g h_t_step 20 q_15.2.2.2.2.1, aJ g h_t_column 18 q_15.2.2.2.2.2.1, aJ g h_t_moved 18 q_15.2.2.2.2.2.2] H → va_D A [ob h_t 9 [.ref h_t_now, .ref h_t_read, .ref h_t_past, .int t_saved, .ref h_t_text, .int t_letters, .int t_stage, .ref h_t_part, .int q_15.1, .ref h_t_matrix, .ref h_t_power, .ref h_t_product, .ref h_t_poly, .ref h_t_old, .ref h_t_step, .ref h_t_column, .ref h_t_moved, .ref h_t_traces, .ref h_t_signed, .ref h_t_plus, .ref h_t_minus, .ref h_t_walk], aI g h_t_now 29 a_t_now, aJ g h_t_matrix 324 q_15.2.1, aJ g h_t_poly 19 r_20, aJ g h_t_old 19 q_15.2.2.2.1, aJ g h_t_step 20 q_15.2.2.2.2.1, aJ g h_t_column 18 q_15.2.2.2.2.2.1, aJ g h_t_moved 18 q_15.2.2.2.2.2.2] → va_S A s.heap H locs → lv_has ls 4 [(0, .ref h_t), (1, .int p1)] → W p l e (rmv 4 89) s m args below meth c H locs 0 0 Q (F0 m 62 ls []) := by
      intro H locs ls hP hD hS hl
      refine lv_aload_n hx hb dX9_taylorAtOne_62 rfl (lv_at hl 0 rfl) ?_
      refine w_get cx hP 0 9 12 rfl rfl (by decide) m_656 rfl rfl dX9_taylorAtOne_63 ?_
      refine lv_iload_n hx hb dX9_taylorAtOne_66 rfl (lv_at hl 1 rfl) ?_
      obtain ⟨g_67, hM⟩ := gd_some hM
      refine w_lald cx hP 3 rfl g_67 dX9_taylorAtOne_67 ?_
      obtain rfl := Option.some.inj hM
      exact hfin 68 _ _ _ dX9_taylorAtOne_68 hP hD hS
    clear hM
    have hL_20 : ∀ (n : Nat) (z_20 : Int32 × (Nat → Int64)), it (b_X9_taylorAtOne_20 p1) n z_20 = some r_20 → ∀ (H : Heap) (locs : List Loc) (ls : Array Slot), va_P (gD g) vwCl [ob h_t 9 [.ref h_t_now, .ref h_t_read, .ref h_t_past, .int t_saved, .ref h_t_text, .int t_letters, .int t_stage, .ref h_t_part, .int q_15.1, .ref h_t_matrix, .ref h_t_power, .ref h_t_product, .ref h_t_poly, .ref h_t_old, .ref h_t_step, .ref h_t_column, .ref h_t_moved, .ref h_t_traces, .ref h_t_signed, .ref h_t_plus, .ref h_t_minus, .ref h_t_walk], aI g h_t_now 29 a_t_now, aJ g h_t_matrix 324 q_15.2.1, aJ g h_t_poly 19 z_20.2, aJ g h_t_old 19 q_15.2.2.2.1, aJ g h_t_step 20 q_15.2.2.2.2.1, aJ g h_t_column 18 q_15.2.2.2.2.2.1, aJ g h_t_moved 18 q_15.2.2.2.2.2.2] H → va_D A [ob h_t 9 [.ref h_t_now, .ref h_t_read, .ref h_t_past, .int t_saved, .ref h_t_text, .int t_letters, .int t_stage, .ref h_t_part, .int q_15.1, .ref h_t_matrix, .ref h_t_power, .ref h_t_product, .ref h_t_poly, .ref h_t_old, .ref h_t_step, .ref h_t_column, .ref h_t_moved, .ref h_t_traces, .ref h_t_signed, .ref h_t_plus, .ref h_t_minus, .ref h_t_walk], aI g h_t_now 29 a_t_now, aJ g h_t_matrix 324 q_15.2.1, aJ g h_t_poly 19 z_20.2, aJ g h_t_old 19 q_15.2.2.2.1, aJ g h_t_step 20 q_15.2.2.2.2.1, aJ g h_t_column 18 q_15.2.2.2.2.2.1, aJ g h_t_moved 18 q_15.2.2.2.2.2.2] → va_S A s.heap H locs → lv_has ls 4 [(2, .int z_20.1), (0, .ref h_t), (1, .int p1)] → W p l e (rmv 4 89) s m args below meth c H locs 0 0 Q (F0 m 20 ls []) := by
      intro n
      induction n with
      | zero => intro z_20 hn; exact (it_zero hn).elim
      | succ n ih =>
        intro z_20 hn H locs ls hP hD hS hl
        obtain ⟨x, hM, hX⟩ := it_succ hn
        clear hn
        refine lv_iload_n hx hb dX9_taylorAtOne_20 rfl (lv_at hl 0 rfl) ?_
        refine lv_iload_n hx hb dX9_taylorAtOne_21 rfl (lv_at hl 2 rfl) ?_
        refine lv_icmp_gt (tgt := 62) hx hb dX9_taylorAtOne_22 (by decide) (fun c_22 => ?_) (fun c_22 => ?_)
        · have hM := if_t hM c_22
          obtain rfl := Option.some.inj hM
          obtain rfl : _ = r_20 := hX
          exact hE_20_0 _ _ _ hP hD hS (lv_sub hl [1, 2] rfl)
        · have hM := if_f hM c_22
          refine lv_bipush (v := (nI 17)) hx hb dX9_taylorAtOne_25 (by decide) ?_
          refine lv_istore_n (lv' := [(3, .int (nI 17)), (2, .int z_20.1), (0, .ref h_t), (1, .int p1)]) hx hb dX9_taylorAtOne_27 rfl hl (by decide) rfl (fun ls hl => ?_)
          obtain ⟨r_28, hw, hM⟩ := bd_some hM
          obtain ⟨n, hn⟩ := wh_some hw
          clear hw
          have hE_28_0 : ∀ (H : Heap) (locs : List Loc) (ls : Array Slot), va_P (gD g) vwCl [ob h_t 9 [.ref h_t_now, .ref h_t_read, .ref h_t_past, .int t_saved, .ref h_t_text, .int t_letters, .int t_stage, .ref h_t_part, .int q_15.1, .ref h_t_matrix, .ref h_t_power, .ref h_t_product, .ref h_t_poly, .ref h_t_old, .ref h_t_step, .ref h_t_column, .ref h_t_moved, .ref h_t_traces, .ref h_t_signed, .ref h_t_plus, .ref h_t_minus, .ref h_t_walk], aI g h_t_now 29 a_t_now, aJ g h_t_matrix 324 q_15.2.1, aJ g h_t_poly 19 r_28, aJ g h_t_old 19 q_15.2.2.2.1, aJ g h_t_step 20 q_15.2.2.2.2.1, aJ g h_t_column 18 q_15.2.2.2.2.2.1, aJ g h_t_moved 18 q_15.2.2.2.2.2.2] H → va_D A [ob h_t 9 [.ref h_t_now, .ref h_t_read, .ref h_t_past, .int t_saved, .ref h_t_text, .int t_letters, .int t_stage, .ref h_t_part, .int q_15.1, .ref h_t_matrix, .ref h_t_power, .ref h_t_product, .ref h_t_poly, .ref h_t_old, .ref h_t_step, .ref h_t_column, .ref h_t_moved, .ref h_t_traces, .ref h_t_signed, .ref h_t_plus, .ref h_t_minus, .ref h_t_walk], aI g h_t_now 29 a_t_now, aJ g h_t_matrix 324 q_15.2.1, aJ g h_t_poly 19 r_28, aJ g h_t_old 19 q_15.2.2.2.1, aJ g h_t_step 20 q_15.2.2.2.2.1, aJ g h_t_column 18 q_15.2.2.2.2.2.1, aJ g h_t_moved 18 q_15.2.2.2.2.2.2] → va_S A s.heap H locs → lv_has ls 4 [(2, .int z_20.1), (0, .ref h_t), (1, .int p1)] → W p l e (rmv 4 89) s m args below meth c H locs 0 0 Q (F0 m 56 ls []) := by
            intro H locs ls hP hD hS hl
            refine lv_iinc (v := z_20.1 + (nI 1)) (lv' := [(2, .int (z_20.1 + (nI 1))), (0, .ref h_t), (1, .int p1)]) hx hb dX9_taylorAtOne_56 hl (k := 0) rfl (congrArg (fun q => z_20.1 + q) (show Int32.ofInt (1) = (nI 1) by decide)) (by decide) rfl (fun ls hl => ?_)
            refine lv_goto (tgt := 20) hx hb dX9_taylorAtOne_59 (by decide) ?_
            obtain rfl := Option.some.inj hM
            exact ih _ hX _ _ _ hP hD hS (lv_sub hl [0, 1, 2] rfl)
          clear hM
          have hL_28 : ∀ (n : Nat) (z_28 : Int32 × (Nat → Int64)), it (b_X9_taylorAtOne_28 z_20) n z_28 = some r_28 → ∀ (H : Heap) (locs : List Loc) (ls : Array Slot), va_P (gD g) vwCl [ob h_t 9 [.ref h_t_now, .ref h_t_read, .ref h_t_past, .int t_saved, .ref h_t_text, .int t_letters, .int t_stage, .ref h_t_part, .int q_15.1, .ref h_t_matrix, .ref h_t_power, .ref h_t_product, .ref h_t_poly, .ref h_t_old, .ref h_t_step, .ref h_t_column, .ref h_t_moved, .ref h_t_traces, .ref h_t_signed, .ref h_t_plus, .ref h_t_minus, .ref h_t_walk], aI g h_t_now 29 a_t_now, aJ g h_t_matrix 324 q_15.2.1, aJ g h_t_poly 19 z_28.2, aJ g h_t_old 19 q_15.2.2.2.1, aJ g h_t_step 20 q_15.2.2.2.2.1, aJ g h_t_column 18 q_15.2.2.2.2.2.1, aJ g h_t_moved 18 q_15.2.2.2.2.2.2] H → va_D A [ob h_t 9 [.ref h_t_now, .ref h_t_read, .ref h_t_past, .int t_saved, .ref h_t_text, .int t_letters, .int t_stage, .ref h_t_part, .int q_15.1, .ref h_t_matrix, .ref h_t_power, .ref h_t_product, .ref h_t_poly, .ref h_t_old, .ref h_t_step, .ref h_t_column, .ref h_t_moved, .ref h_t_traces, .ref h_t_signed, .ref h_t_plus, .ref h_t_minus, .ref h_t_walk], aI g h_t_now 29 a_t_now, aJ g h_t_matrix 324 q_15.2.1, aJ g h_t_poly 19 z_28.2, aJ g h_t_old 19 q_15.2.2.2.1, aJ g h_t_step 20 q_15.2.2.2.2.1, aJ g h_t_column 18 q_15.2.2.2.2.2.1, aJ g h_t_moved 18 q_15.2.2.2.2.2.2] → va_S A s.heap H locs → lv_has ls 4 [(3, .int z_28.1), (2, .int z_20.1), (0, .ref h_t), (1, .int p1)] → W p l e (rmv 4 89) s m args below meth c H locs 0 0 Q (F0 m 28 ls []) := by
            intro n
            induction n with
            | zero => intro z_28 hn; exact (it_zero hn).elim
            | succ n ih =>
              intro z_28 hn H locs ls hP hD hS hl
              obtain ⟨x, hM, hX⟩ := it_succ hn
              clear hn
              refine lv_iload_n hx hb dX9_taylorAtOne_28 rfl (lv_at hl 0 rfl) ?_
              refine lv_iload_n hx hb dX9_taylorAtOne_29 rfl (lv_at hl 1 rfl) ?_
              refine lv_icmp_lt (tgt := 56) hx hb dX9_taylorAtOne_30 (by decide) (fun c_30 => ?_) (fun c_30 => ?_)
              · have hM := if_t hM c_30
                obtain rfl := Option.some.inj hM
                obtain rfl : _ = r_28 := hX
                exact hE_28_0 _ _ _ hP hD hS (lv_sub hl [1, 2, 3] rfl)
              · have hM := if_f hM c_30
                refine lv_aload_n hx hb dX9_taylorAtOne_33 rfl (lv_at hl 2 rfl) ?_
                refine w_get cx hP 0 9 12 rfl rfl (by decide) m_656 rfl rfl dX9_taylorAtOne_34 ?_
                refine lv_iload_n hx hb dX9_taylorAtOne_37 rfl (lv_at hl 0 rfl) ?_
                refine lv_dup2_11 hx hb dX9_taylorAtOne_38 rfl rfl ?_
                obtain ⟨g_39, hM⟩ := gd_some hM
                refine w_lald cx hP 3 rfl g_39 dX9_taylorAtOne_39 ?_
                refine lv_aload_n hx hb dX9_taylorAtOne_40 rfl (lv_at hl 2 rfl) ?_
                refine w_get cx hP 0 9 12 rfl rfl (by decide) m_656 rfl rfl dX9_taylorAtOne_41 ?_
                refine lv_iload_n hx hb dX9_taylorAtOne_44 rfl (lv_at hl 0 rfl) ?_
                refine lv_iconst (v := (nI 1)) hx hb dX9_taylorAtOne_45 (by decide) ?_
                refine lv_iadd hx hb dX9_taylorAtOne_46 ?_
                obtain ⟨g_47, hM⟩ := gd_some hM
                refine w_lald cx hP 3 rfl g_47 dX9_taylorAtOne_47 ?_
                refine lv_ladd hx hb dX9_taylorAtOne_48 ?_
                obtain ⟨g_49, hM⟩ := gd_some hM
                refine w_last cx hP hD hS 3 rfl g_49 dX9_taylorAtOne_49 [ob h_t 9 [.ref h_t_now, .ref h_t_read, .ref h_t_past, .int t_saved, .ref h_t_text, .int t_letters, .int t_stage, .ref h_t_part, .int q_15.1, .ref h_t_matrix, .ref h_t_power, .ref h_t_product, .ref h_t_poly, .ref h_t_old, .ref h_t_step, .ref h_t_column, .ref h_t_moved, .ref h_t_traces, .ref h_t_signed, .ref h_t_plus, .ref h_t_minus, .ref h_t_walk], aI g h_t_now 29 a_t_now, aJ g h_t_matrix 324 q_15.2.1, aJ g h_t_poly 19 (vp_updL z_28.2 z_28.1.toNatClampNeg ((z_28.2 z_28.1.toNatClampNeg) + (z_28.2 (z_28.1 + (nI 1)).toNatClampNeg))), aJ g h_t_old 19 q_15.2.2.2.1, aJ g h_t_step 20 q_15.2.2.2.2.1, aJ g h_t_column 18 q_15.2.2.2.2.2.1, aJ g h_t_moved 18 q_15.2.2.2.2.2.2] rfl (fun H locs hP hD hS => ?_)
                obtain ⟨x_50, ex_50⟩ : ∃ q : Int32, q = z_28.1 + (nI 4294967295) := ⟨_, rfl⟩
                have hM := nm_some hM x_50 ex_50
                refine lv_iinc (v := x_50) (lv' := [(3, .int x_50), (2, .int z_20.1), (0, .ref h_t), (1, .int p1)]) hx hb dX9_taylorAtOne_50 hl (k := 0) rfl ((congrArg (fun q => z_28.1 + q) (show Int32.ofInt (-1) = (nI 4294967295) by decide)).trans ex_50.symm) (by decide) rfl (fun ls hl => ?_)
                refine lv_goto (tgt := 28) hx hb dX9_taylorAtOne_53 (by decide) ?_
                obtain rfl := Option.some.inj hM
                exact ih _ hX _ _ _ hP hD hS (lv_sub hl [0, 1, 2, 3] rfl)
          exact hL_28 n _ hn _ _ _ hP hD hS (lv_sub hl [0, 1, 2, 3] rfl)
    exact hL_20 n _ hn _ _ _ hP hD hS (lv_sub hl [0, 1, 2] rfl)
  · have hM := if_t hM c_7
    refine lv_ldc2 hx hb hown (hts _ m_845) dX9_taylorAtOne_10 ?_
    obtain rfl := Option.some.inj hM
    exact hfin 13 _ _ _ dX9_taylorAtOne_13 hP hD hS
noncomputable def b_X9_edgeDegree_7 (q_1 : Int32 × (Nat → Int64) × (Nat → Int64) × (Nat → Int64) × (Nat → Int64) × (Nat → Int64) × (Nat → Int64)) : Int32 → Option ((Int32) ⊕ ((Int32))) := fun z_7 =>
  gd (inb z_7 19) (if (lg_cmp (q_1.2.2.1 z_7.toNatClampNeg) (0 : Int64)) = 0 then nm (z_7 + (nI 4294967295)) (fun (x_18 : Int32) => some (.inl x_18)) else some (.inr z_7))
noncomputable def f_X9_edgeDegree (t_saved : Int32) (t_letters : Int32) (t_stage : Int32) (t_size : Int32) (a_t_now : Nat → Int32) (a_t_matrix : Nat → Int64) (a_t_poly : Nat → Int64) (a_t_old : Nat → Int64) (a_t_step : Nat → Int64) (a_t_column : Nat → Int64) (a_t_moved : Nat → Int64) : Option (Int32 × Int32 × (Nat → Int64) × (Nat → Int64) × (Nat → Int64) × (Nat → Int64) × (Nat → Int64) × (Nat → Int64)) :=
  bd (f_X9_laysEdgePoly t_saved t_letters t_stage t_size a_t_now a_t_matrix a_t_poly a_t_old a_t_step a_t_column a_t_moved) (fun (q_1 : Int32 × (Nat → Int64) × (Nat → Int64) × (Nat → Int64) × (Nat → Int64) × (Nat → Int64) × (Nat → Int64)) => bd (wh (b_X9_edgeDegree_7 q_1) (nI 18)) (fun (r_7 : Int32) => some (r_7, q_1.1, q_1.2.1, q_1.2.2.1, q_1.2.2.2.1, q_1.2.2.2.2.1, q_1.2.2.2.2.2.1, q_1.2.2.2.2.2.2)))
theorem yq_X9_edgeDegree : yq yX9_edgeDegree 0 := by unfold yq; decide +kernel
set_option maxHeartbeats 4000000 in
set_option maxRecDepth 100000 in
theorem c_X9_edgeDegree (g : GG) (l : Launch) (h_t : Nat) (h_t_now : Nat) (h_t_read : Nat) (h_t_past : Nat) (h_t_text : Nat) (h_t_part : Nat) (h_t_matrix : Nat) (h_t_power : Nat) (h_t_product : Nat) (h_t_poly : Nat) (h_t_old : Nat) (h_t_step : Nat) (h_t_column : Nat) (h_t_moved : Nat) (h_t_traces : Nat) (h_t_signed : Nat) (h_t_plus : Nat) (h_t_minus : Nat) (h_t_walk : Nat) (t_saved : Int32) (t_letters : Int32) (t_stage : Int32) (t_size : Int32) (a_t_now : Nat → Int32) (a_t_matrix : Nat → Int64) (a_t_poly : Nat → Int64) (a_t_old : Nat → Int64) (a_t_step : Nat → Int64) (a_t_column : Nat → Int64) (a_t_moved : Nat → Int64) {R : Int32 × Int32 × (Nat → Int64) × (Nat → Int64) × (Nat → Int64) × (Nat → Int64) × (Nat → Int64) × (Nat → Int64)} (hM : f_X9_edgeDegree t_saved t_letters t_stage t_size a_t_now a_t_matrix a_t_poly a_t_old a_t_step a_t_column a_t_moved = some R) : CT g l yX9_edgeDegree cX9_edgeDegree 2 (some .int) 4 89 [.ref h_t] [ob h_t 9 [.ref h_t_now, .ref h_t_read, .ref h_t_past, .int t_saved, .ref h_t_text, .int t_letters, .int t_stage, .ref h_t_part, .int t_size, .ref h_t_matrix, .ref h_t_power, .ref h_t_product, .ref h_t_poly, .ref h_t_old, .ref h_t_step, .ref h_t_column, .ref h_t_moved, .ref h_t_traces, .ref h_t_signed, .ref h_t_plus, .ref h_t_minus, .ref h_t_walk], aI g h_t_now 29 a_t_now, aJ g h_t_matrix 324 a_t_matrix, aJ g h_t_poly 19 a_t_poly, aJ g h_t_old 19 a_t_old, aJ g h_t_step 20 a_t_step, aJ g h_t_column 18 a_t_column, aJ g h_t_moved 18 a_t_moved] [ob h_t 9 [.ref h_t_now, .ref h_t_read, .ref h_t_past, .int t_saved, .ref h_t_text, .int t_letters, .int t_stage, .ref h_t_part, .int R.2.1, .ref h_t_matrix, .ref h_t_power, .ref h_t_product, .ref h_t_poly, .ref h_t_old, .ref h_t_step, .ref h_t_column, .ref h_t_moved, .ref h_t_traces, .ref h_t_signed, .ref h_t_plus, .ref h_t_minus, .ref h_t_walk], aI g h_t_now 29 a_t_now, aJ g h_t_matrix 324 R.2.2.1, aJ g h_t_poly 19 R.2.2.2.1, aJ g h_t_old 19 R.2.2.2.2.1, aJ g h_t_step 20 R.2.2.2.2.2.1, aJ g h_t_column 18 R.2.2.2.2.2.2.1, aJ g h_t_moved 18 R.2.2.2.2.2.2.2] (some (.int R.1)) := by
  refine ct_i (by decide +kernel) (Nat.le_of_ble_eq_true rfl) ?_
  intro p e s m args below meth c Q A ls cx hP hD hA hl hfin
  obtain ⟨hx, hb, hml, hown, hts, hK⟩ := id cx
  have hl : lv_has ls 2 [(0, .ref h_t)] := hl
  have hS : va_S A s.heap s.heap [] := va_S.rf
  refine lv_aload_n hx hb dX9_edgeDegree_0 rfl (lv_at hl 0 rfl) ?_
  obtain ⟨q_1, hc_1, hM⟩ := bd_some hM
  refine w_callV cx hP hD hS hA (c_X9_laysEdgePoly g l h_t h_t_now h_t_read h_t_past h_t_text h_t_part h_t_matrix h_t_power h_t_product h_t_poly h_t_old h_t_step h_t_column h_t_moved h_t_traces h_t_signed h_t_plus h_t_minus h_t_walk t_saved t_letters t_stage t_size a_t_now a_t_matrix a_t_poly a_t_old a_t_step a_t_column a_t_moved hc_1) [0, 1, 2, 3, 4, 5, 6, 7] rfl (by decide) rfl [ob h_t 9 [.ref h_t_now, .ref h_t_read, .ref h_t_past, .int t_saved, .ref h_t_text, .int t_letters, .int t_stage, .ref h_t_part, .int q_1.1, .ref h_t_matrix, .ref h_t_power, .ref h_t_product, .ref h_t_poly, .ref h_t_old, .ref h_t_step, .ref h_t_column, .ref h_t_moved, .ref h_t_traces, .ref h_t_signed, .ref h_t_plus, .ref h_t_minus, .ref h_t_walk], aI g h_t_now 29 a_t_now, aJ g h_t_matrix 324 q_1.2.1, aJ g h_t_poly 19 q_1.2.2.1, aJ g h_t_old 19 q_1.2.2.2.1, aJ g h_t_step 20 q_1.2.2.2.2.1, aJ g h_t_column 18 q_1.2.2.2.2.2.1, aJ g h_t_moved 18 q_1.2.2.2.2.2.2] rfl 0 9 rfl rfl yq_X9_laysEdgePoly rfl m_895 m_897 m_34 m_51 m_898 ⟨Nat.le_of_ble_eq_true rfl, Nat.le_of_ble_eq_true rfl⟩ rfl rfl hl.1 (Nat.le_of_ble_eq_true rfl) dX9_edgeDegree_1 ⟨Nat.le_refl 0, Nat.le_refl 0⟩ rfl (fun H locs hP hD hS => ?_)
  refine lv_bipush (v := (nI 18)) hx hb dX9_edgeDegree_4 (by decide) ?_
  refine lv_istore_n (lv' := [(1, .int (nI 18)), (0, .ref h_t)]) hx hb dX9_edgeDegree_6 rfl hl (by decide) rfl (fun ls hl => ?_)
  obtain ⟨r_7, hw, hM⟩ := bd_some hM
  obtain ⟨n, hn⟩ := wh_some hw
  clear hw
  have hE_7_0 : ∀ (H : Heap) (locs : List Loc) (ls : Array Slot), va_P (gD g) vwCl [ob h_t 9 [.ref h_t_now, .ref h_t_read, .ref h_t_past, .int t_saved, .ref h_t_text, .int t_letters, .int t_stage, .ref h_t_part, .int q_1.1, .ref h_t_matrix, .ref h_t_power, .ref h_t_product, .ref h_t_poly, .ref h_t_old, .ref h_t_step, .ref h_t_column, .ref h_t_moved, .ref h_t_traces, .ref h_t_signed, .ref h_t_plus, .ref h_t_minus, .ref h_t_walk], aI g h_t_now 29 a_t_now, aJ g h_t_matrix 324 q_1.2.1, aJ g h_t_poly 19 q_1.2.2.1, aJ g h_t_old 19 q_1.2.2.2.1, aJ g h_t_step 20 q_1.2.2.2.2.1, aJ g h_t_column 18 q_1.2.2.2.2.2.1, aJ g h_t_moved 18 q_1.2.2.2.2.2.2] H → va_D A [ob h_t 9 [.ref h_t_now, .ref h_t_read, .ref h_t_past, .int t_saved, .ref h_t_text, .int t_letters, .int t_stage, .ref h_t_part, .int q_1.1, .ref h_t_matrix, .ref h_t_power, .ref h_t_product, .ref h_t_poly, .ref h_t_old, .ref h_t_step, .ref h_t_column, .ref h_t_moved, .ref h_t_traces, .ref h_t_signed, .ref h_t_plus, .ref h_t_minus, .ref h_t_walk], aI g h_t_now 29 a_t_now, aJ g h_t_matrix 324 q_1.2.1, aJ g h_t_poly 19 q_1.2.2.1, aJ g h_t_old 19 q_1.2.2.2.1, aJ g h_t_step 20 q_1.2.2.2.2.1, aJ g h_t_column 18 q_1.2.2.2.2.2.1, aJ g h_t_moved 18 q_1.2.2.2.2.2.2] → va_S A s.heap H locs → lv_has ls 2 [(1, .int r_7)] → W p l e (rmv 4 89) s m args below meth c H locs 0 0 Q (F0 m 24 ls []) := by
    intro H locs ls hP hD hS hl
    refine lv_iload_n hx hb dX9_edgeDegree_24 rfl (lv_at hl 0 rfl) ?_
    obtain rfl := Option.some.inj hM
    exact hfin 25 _ _ _ dX9_edgeDegree_25 hP hD hS
  clear hM
  have hL_7 : ∀ (n : Nat) (z_7 : Int32), it (b_X9_edgeDegree_7 q_1) n z_7 = some r_7 → ∀ (H : Heap) (locs : List Loc) (ls : Array Slot), va_P (gD g) vwCl [ob h_t 9 [.ref h_t_now, .ref h_t_read, .ref h_t_past, .int t_saved, .ref h_t_text, .int t_letters, .int t_stage, .ref h_t_part, .int q_1.1, .ref h_t_matrix, .ref h_t_power, .ref h_t_product, .ref h_t_poly, .ref h_t_old, .ref h_t_step, .ref h_t_column, .ref h_t_moved, .ref h_t_traces, .ref h_t_signed, .ref h_t_plus, .ref h_t_minus, .ref h_t_walk], aI g h_t_now 29 a_t_now, aJ g h_t_matrix 324 q_1.2.1, aJ g h_t_poly 19 q_1.2.2.1, aJ g h_t_old 19 q_1.2.2.2.1, aJ g h_t_step 20 q_1.2.2.2.2.1, aJ g h_t_column 18 q_1.2.2.2.2.2.1, aJ g h_t_moved 18 q_1.2.2.2.2.2.2] H → va_D A [ob h_t 9 [.ref h_t_now, .ref h_t_read, .ref h_t_past, .int t_saved, .ref h_t_text, .int t_letters, .int t_stage, .ref h_t_part, .int q_1.1, .ref h_t_matrix, .ref h_t_power, .ref h_t_product, .ref h_t_poly, .ref h_t_old, .ref h_t_step, .ref h_t_column, .ref h_t_moved, .ref h_t_traces, .ref h_t_signed, .ref h_t_plus, .ref h_t_minus, .ref h_t_walk], aI g h_t_now 29 a_t_now, aJ g h_t_matrix 324 q_1.2.1, aJ g h_t_poly 19 q_1.2.2.1, aJ g h_t_old 19 q_1.2.2.2.1, aJ g h_t_step 20 q_1.2.2.2.2.1, aJ g h_t_column 18 q_1.2.2.2.2.2.1, aJ g h_t_moved 18 q_1.2.2.2.2.2.2] → va_S A s.heap H locs → lv_has ls 2 [(1, .int z_7), (0, .ref h_t)] → W p l e (rmv 4 89) s m args below meth c H locs 0 0 Q (F0 m 7 ls []) := by
    intro n
    induction n with
    | zero => intro z_7 hn; exact (it_zero hn).elim
    | succ n ih =>
      intro z_7 hn H locs ls hP hD hS hl
      obtain ⟨x, hM, hX⟩ := it_succ hn
      clear hn
      refine lv_aload_n hx hb dX9_edgeDegree_7 rfl (lv_at hl 1 rfl) ?_
      refine w_get cx hP 0 9 12 rfl rfl (by decide) m_656 rfl rfl dX9_edgeDegree_8 ?_
      refine lv_iload_n hx hb dX9_edgeDegree_11 rfl (lv_at hl 0 rfl) ?_
      obtain ⟨g_12, hM⟩ := gd_some hM
      refine w_lald cx hP 3 rfl g_12 dX9_edgeDegree_12 ?_
      refine lv_lconst (v := (0 : Int64)) hx hb dX9_edgeDegree_13 (by decide) ?_
      refine W.lcmp hx hb dX9_edgeDegree_14 ?_
      refine lv_if_ne (tgt := 24) hx hb dX9_edgeDegree_15 (by decide) (fun c_15 => ?_) (fun c_15 => ?_)
      · have hM := if_f hM c_15
        obtain rfl := Option.some.inj hM
        obtain rfl : _ = r_7 := hX
        exact hE_7_0 _ _ _ hP hD hS (lv_sub hl [0] rfl)
      · have hM := if_t hM c_15
        obtain ⟨x_18, ex_18⟩ : ∃ q : Int32, q = z_7 + (nI 4294967295) := ⟨_, rfl⟩
        have hM := nm_some hM x_18 ex_18
        refine lv_iinc (v := x_18) (lv' := [(1, .int x_18), (0, .ref h_t)]) hx hb dX9_edgeDegree_18 hl (k := 0) rfl ((congrArg (fun q => z_7 + q) (show Int32.ofInt (-1) = (nI 4294967295) by decide)).trans ex_18.symm) (by decide) rfl (fun ls hl => ?_)
        refine lv_goto (tgt := 7) hx hb dX9_edgeDegree_21 (by decide) ?_
        obtain rfl := Option.some.inj hM
        exact ih _ hX _ _ _ hP hD hS (lv_sub hl [0, 1] rfl)
  exact hL_7 n _ hn _ _ _ hP hD hS (lv_sub hl [0, 1] rfl)
noncomputable def f_X9_spanningTrees (t_saved : Int32) (t_letters : Int32) (t_stage : Int32) (t_size : Int32) (a_t_now : Nat → Int32) (a_t_matrix : Nat → Int64) (a_t_poly : Nat → Int64) (a_t_old : Nat → Int64) (a_t_step : Nat → Int64) (a_t_column : Nat → Int64) (a_t_moved : Nat → Int64) : Option (Int32 × Int32 × (Nat → Int64) × (Nat → Int64) × (Nat → Int64) × (Nat → Int64) × (Nat → Int64) × (Nat → Int64)) :=
  bd (f_X9_laysTrees t_saved t_letters t_stage t_size a_t_now a_t_matrix) (fun (q_1 : Int32 × (Nat → Int64)) => bd (f_X9_laysPoly t_saved t_letters t_stage q_1.1 q_1.2 a_t_poly a_t_old a_t_step a_t_column a_t_moved) (fun (q_5 : (Nat → Int64) × (Nat → Int64) × (Nat → Int64) × (Nat → Int64) × (Nat → Int64)) => gd (inb q_1.1 19) (nm (q_5.1 q_1.1.toNatClampNeg) (fun (x_17 : Int64) => if (q_1.1 - q_1.1 / (nI 2) * (nI 2)) = 0 then some (x_17.toInt32, q_1.1, q_1.2, q_5.1, q_5.2.1, q_5.2.2.1, q_5.2.2.2.1, q_5.2.2.2.2) else some ((-x_17).toInt32, q_1.1, q_1.2, q_5.1, q_5.2.1, q_5.2.2.1, q_5.2.2.2.1, q_5.2.2.2.2)))))
theorem yq_X9_spanningTrees : yq yX9_spanningTrees 0 := by unfold yq; decide +kernel
set_option maxHeartbeats 4000000 in
set_option maxRecDepth 100000 in
theorem c_X9_spanningTrees (g : GG) (l : Launch) (h_t : Nat) (h_t_now : Nat) (h_t_read : Nat) (h_t_past : Nat) (h_t_text : Nat) (h_t_part : Nat) (h_t_matrix : Nat) (h_t_power : Nat) (h_t_product : Nat) (h_t_poly : Nat) (h_t_old : Nat) (h_t_step : Nat) (h_t_column : Nat) (h_t_moved : Nat) (h_t_traces : Nat) (h_t_signed : Nat) (h_t_plus : Nat) (h_t_minus : Nat) (h_t_walk : Nat) (t_saved : Int32) (t_letters : Int32) (t_stage : Int32) (t_size : Int32) (a_t_now : Nat → Int32) (a_t_matrix : Nat → Int64) (a_t_poly : Nat → Int64) (a_t_old : Nat → Int64) (a_t_step : Nat → Int64) (a_t_column : Nat → Int64) (a_t_moved : Nat → Int64) {R : Int32 × Int32 × (Nat → Int64) × (Nat → Int64) × (Nat → Int64) × (Nat → Int64) × (Nat → Int64) × (Nat → Int64)} (hM : f_X9_spanningTrees t_saved t_letters t_stage t_size a_t_now a_t_matrix a_t_poly a_t_old a_t_step a_t_column a_t_moved = some R) : CT g l yX9_spanningTrees cX9_spanningTrees 3 (some .int) 2 49 [.ref h_t] [ob h_t 9 [.ref h_t_now, .ref h_t_read, .ref h_t_past, .int t_saved, .ref h_t_text, .int t_letters, .int t_stage, .ref h_t_part, .int t_size, .ref h_t_matrix, .ref h_t_power, .ref h_t_product, .ref h_t_poly, .ref h_t_old, .ref h_t_step, .ref h_t_column, .ref h_t_moved, .ref h_t_traces, .ref h_t_signed, .ref h_t_plus, .ref h_t_minus, .ref h_t_walk], aI g h_t_now 29 a_t_now, aJ g h_t_matrix 324 a_t_matrix, aJ g h_t_poly 19 a_t_poly, aJ g h_t_old 19 a_t_old, aJ g h_t_step 20 a_t_step, aJ g h_t_column 18 a_t_column, aJ g h_t_moved 18 a_t_moved] [ob h_t 9 [.ref h_t_now, .ref h_t_read, .ref h_t_past, .int t_saved, .ref h_t_text, .int t_letters, .int t_stage, .ref h_t_part, .int R.2.1, .ref h_t_matrix, .ref h_t_power, .ref h_t_product, .ref h_t_poly, .ref h_t_old, .ref h_t_step, .ref h_t_column, .ref h_t_moved, .ref h_t_traces, .ref h_t_signed, .ref h_t_plus, .ref h_t_minus, .ref h_t_walk], aI g h_t_now 29 a_t_now, aJ g h_t_matrix 324 R.2.2.1, aJ g h_t_poly 19 R.2.2.2.1, aJ g h_t_old 19 R.2.2.2.2.1, aJ g h_t_step 20 R.2.2.2.2.2.1, aJ g h_t_column 18 R.2.2.2.2.2.2.1, aJ g h_t_moved 18 R.2.2.2.2.2.2.2] (some (.int R.1)) := by
  refine ct_i (by decide +kernel) (Nat.le_of_ble_eq_true rfl) ?_
  intro p e s m args below meth c Q A ls cx hP hD hA hl hfin
  obtain ⟨hx, hb, hml, hown, hts, hK⟩ := id cx
  have hl : lv_has ls 3 [(0, .ref h_t)] := hl
  have hS : va_S A s.heap s.heap [] := va_S.rf
  refine lv_aload_n hx hb dX9_spanningTrees_0 rfl (lv_at hl 0 rfl) ?_
  obtain ⟨q_1, hc_1, hM⟩ := bd_some hM
  refine w_callV cx hP hD hS hA (c_X9_laysTrees g l h_t h_t_now h_t_read h_t_past h_t_text h_t_part h_t_matrix h_t_power h_t_product h_t_poly h_t_old h_t_step h_t_column h_t_moved h_t_traces h_t_signed h_t_plus h_t_minus h_t_walk t_saved t_letters t_stage t_size a_t_now a_t_matrix hc_1) [0, 1, 2] rfl (by decide) rfl [ob h_t 9 [.ref h_t_now, .ref h_t_read, .ref h_t_past, .int t_saved, .ref h_t_text, .int t_letters, .int t_stage, .ref h_t_part, .int q_1.1, .ref h_t_matrix, .ref h_t_power, .ref h_t_product, .ref h_t_poly, .ref h_t_old, .ref h_t_step, .ref h_t_column, .ref h_t_moved, .ref h_t_traces, .ref h_t_signed, .ref h_t_plus, .ref h_t_minus, .ref h_t_walk], aI g h_t_now 29 a_t_now, aJ g h_t_matrix 324 q_1.2, aJ g h_t_poly 19 a_t_poly, aJ g h_t_old 19 a_t_old, aJ g h_t_step 20 a_t_step, aJ g h_t_column 18 a_t_column, aJ g h_t_moved 18 a_t_moved] rfl 0 9 rfl rfl yq_X9_laysTrees rfl m_951 m_953 m_40 m_51 m_954 ⟨Nat.le_of_ble_eq_true rfl, Nat.le_of_ble_eq_true rfl⟩ rfl rfl hl.1 (Nat.le_of_ble_eq_true rfl) dX9_spanningTrees_1 ⟨Nat.le_refl 0, Nat.le_refl 0⟩ rfl (fun H locs hP hD hS => ?_)
  refine lv_aload_n hx hb dX9_spanningTrees_4 rfl (lv_at hl 0 rfl) ?_
  obtain ⟨q_5, hc_5, hM⟩ := bd_some hM
  refine w_callV cx hP hD hS hA (c_X9_laysPoly g l h_t h_t_now h_t_read h_t_past h_t_text h_t_part h_t_matrix h_t_power h_t_product h_t_poly h_t_old h_t_step h_t_column h_t_moved h_t_traces h_t_signed h_t_plus h_t_minus h_t_walk t_saved t_letters t_stage q_1.1 q_1.2 a_t_poly a_t_old a_t_step a_t_column a_t_moved hc_5) [0, 2, 3, 4, 5, 6, 7] rfl (by decide) rfl [ob h_t 9 [.ref h_t_now, .ref h_t_read, .ref h_t_past, .int t_saved, .ref h_t_text, .int t_letters, .int t_stage, .ref h_t_part, .int q_1.1, .ref h_t_matrix, .ref h_t_power, .ref h_t_product, .ref h_t_poly, .ref h_t_old, .ref h_t_step, .ref h_t_column, .ref h_t_moved, .ref h_t_traces, .ref h_t_signed, .ref h_t_plus, .ref h_t_minus, .ref h_t_walk], aI g h_t_now 29 a_t_now, aJ g h_t_matrix 324 q_1.2, aJ g h_t_poly 19 q_5.1, aJ g h_t_old 19 q_5.2.1, aJ g h_t_step 20 q_5.2.2.1, aJ g h_t_column 18 q_5.2.2.2.1, aJ g h_t_moved 18 q_5.2.2.2.2] rfl 0 9 rfl rfl yq_X9_laysPoly rfl m_899 m_901 m_35 m_51 m_902 ⟨Nat.le_of_ble_eq_true rfl, Nat.le_of_ble_eq_true rfl⟩ rfl rfl hl.1 (Nat.le_of_ble_eq_true rfl) dX9_spanningTrees_5 ⟨Nat.le_refl 0, Nat.le_refl 0⟩ rfl (fun H locs hP hD hS => ?_)
  refine lv_aload_n hx hb dX9_spanningTrees_8 rfl (lv_at hl 0 rfl) ?_
  refine w_get cx hP 0 9 12 rfl rfl (by decide) m_656 rfl rfl dX9_spanningTrees_9 ?_
  refine lv_aload_n hx hb dX9_spanningTrees_12 rfl (lv_at hl 0 rfl) ?_
  refine w_get cx hP 0 9 8 rfl rfl (by decide) m_652 rfl rfl dX9_spanningTrees_13 ?_
  obtain ⟨g_16, hM⟩ := gd_some hM
  refine w_lald cx hP 3 rfl g_16 dX9_spanningTrees_16 ?_
  refine lv_topl (fun x_17 ex_17 => ?_)
  have hM := nm_some hM x_17 ex_17
  refine lv_lstore_n (lv' := [(1, .long x_17), (0, .ref h_t)]) hx hb dX9_spanningTrees_17 rfl hl (by decide) rfl (fun ls hl => ?_)
  refine lv_aload_n hx hb dX9_spanningTrees_18 rfl (lv_at hl 1 rfl) ?_
  refine w_get cx hP 0 9 8 rfl rfl (by decide) m_652 rfl rfl dX9_spanningTrees_19 ?_
  refine lv_iconst (v := (nI 2)) hx hb dX9_spanningTrees_22 (by decide) ?_
  refine lv_irem hx hb dX9_spanningTrees_23 (by decide) ?_
  refine lv_if_ne (tgt := 31) hx hb dX9_spanningTrees_24 (by decide) (fun c_24 => ?_) (fun c_24 => ?_)
  · have hM := if_f hM c_24
    refine lv_lload_n hx hb dX9_spanningTrees_31 rfl (lv_at hl 0 rfl) ?_
    refine lv_lneg hx hb dX9_spanningTrees_32 ?_
    refine lv_l2i (v := (-x_17).toInt32) hx hb dX9_spanningTrees_33 rfl ?_
    obtain rfl := Option.some.inj hM
    exact hfin 34 _ _ _ dX9_spanningTrees_34 hP hD hS
  · have hM := if_t hM c_24
    refine lv_lload_n hx hb dX9_spanningTrees_27 rfl (lv_at hl 0 rfl) ?_
    refine lv_goto (tgt := 33) hx hb dX9_spanningTrees_28 (by decide) ?_
    refine lv_l2i (v := x_17.toInt32) hx hb dX9_spanningTrees_33 rfl ?_
    obtain rfl := Option.some.inj hM
    exact hfin 34 _ _ _ dX9_spanningTrees_34 hP hD hS
