noncomputable def b_X7_goOn_47 (p2 : Int32) (p1_vertices : Int32) (p1_edges : Int32) (a_p1_firsts : Nat → Int32) (a_p1_seconds : Nat → Int32) (a_p1_signs : Nat → Int32) (r_10 : Nat → Int64) : Int32 × (Nat → Int64) → Option ((Int32 × (Nat → Int64)) ⊕ ((Nat → Int64))) := fun z_47 =>
  if p1_edges ≤ z_47.1 then some (.inr z_47.2) else nm ((nI 2) * z_47.1) (fun (x_58 : Int32) => nm (((nI 2) * z_47.1) + (nI 1)) (fun (x_65 : Int32) => bd (if p2 = 0 then some (1 : Int64) else gd (inb z_47.1 9) (some ((a_p1_signs z_47.1.toNatClampNeg).toInt64))) (fun (j_68 : Int64) => bd (f_X2_startOf x_58 p1_vertices p1_edges a_p1_firsts a_p1_seconds) (fun (q_91 : Int32) => gd (inb q_91 6) (gd (inb x_65 18) (nm ((r_10 q_91.toNatClampNeg) - (z_47.2 x_65.toNatClampNeg)) (fun (x_103 : Int64) => bd (f_X2_startOf x_65 p1_vertices p1_edges a_p1_firsts a_p1_seconds) (fun (q_112 : Int32) => gd (inb q_112 6) (gd (inb x_58 18) (nm ((r_10 q_112.toNatClampNeg) - (z_47.2 x_58.toNatClampNeg)) (fun (x_124 : Int64) => gd (inb x_58 18) (gd (inb x_65 18) (some (.inl (z_47.1 + (nI 1), vp_updL (vp_updL z_47.2 x_58.toNatClampNeg (j_68 * x_103)) x_65.toNatClampNeg (j_68 * x_124))))))))))))))))
noncomputable def b_X7_goOn_10 (a_t_reached : Nat → Int64) (p1_vertices : Int32) (p1_edges : Int32) (a_p1_firsts : Nat → Int32) (a_p1_seconds : Nat → Int32) : Int32 × (Nat → Int64) → Option ((Int32 × (Nat → Int64)) ⊕ ((Nat → Int64))) := fun z_10 =>
  if ((nI 2) * p1_edges) ≤ z_10.1 then some (.inr z_10.2) else bd (f_X2_endOf z_10.1 p1_vertices p1_edges a_p1_firsts a_p1_seconds) (fun (q_26 : Int32) => gd (inb q_26 6) (gd (inb z_10.1 18) (gd (inb q_26 6) (some (.inl (z_10.1 + (nI 1), vp_updL z_10.2 q_26.toNatClampNeg ((z_10.2 q_26.toNatClampNeg) + (a_t_reached z_10.1.toNatClampNeg))))))))
noncomputable def f_X7_goOn (p2 : Int32) (a_t_reached : Nat → Int64) (a_t_arrived : Nat → Int64) (p1_vertices : Int32) (p1_edges : Int32) (a_p1_firsts : Nat → Int32) (a_p1_seconds : Nat → Int32) (a_p1_signs : Nat → Int32) : Option ((Nat → Int64) × (Nat → Int64)) :=
  bd (f_J7_fill_d0a16 (0 : Int64) 6 a_t_arrived) (fun (q_5 : Nat → Int64) => bd (wh (b_X7_goOn_10 a_t_reached p1_vertices p1_edges a_p1_firsts a_p1_seconds) ((nI 0), q_5)) (fun (r_10 : Nat → Int64) => bd (wh (b_X7_goOn_47 p2 p1_vertices p1_edges a_p1_firsts a_p1_seconds a_p1_signs r_10) ((nI 0), a_t_reached)) (fun (r_47 : Nat → Int64) => some (r_47, r_10))))
theorem yq_X7_goOn : yq yX7_goOn 2 := by unfold yq; decide +kernel
set_option maxHeartbeats 4000000 in
set_option maxRecDepth 100000 in
theorem c_X7_goOn (g : GG) (l : Launch) (h_t : Nat) (h_t_closed : Nat) (h_t_closedSigned : Nat) (h_t_primitive : Nat) (h_t_primitiveSigned : Nat) (h_t_reached : Nat) (h_t_arrived : Nat) (h_p1 : Nat) (h_p1_firsts : Nat) (h_p1_seconds : Nat) (h_p1_signs : Nat) (p2 : Int32) (a_t_reached : Nat → Int64) (a_t_arrived : Nat → Int64) (p1_vertices : Int32) (p1_edges : Int32) (a_p1_firsts : Nat → Int32) (a_p1_seconds : Nat → Int32) (a_p1_signs : Nat → Int32) {R : (Nat → Int64) × (Nat → Int64)} (hM : f_X7_goOn p2 a_t_reached a_t_arrived p1_vertices p1_edges a_p1_firsts a_p1_seconds a_p1_signs = some R) : CT g l yX7_goOn cX7_goOn 12 none 1 24 [.ref h_t, .ref h_p1, .int p2] [ob h_t 7 [.ref h_t_closed, .ref h_t_closedSigned, .ref h_t_primitive, .ref h_t_primitiveSigned, .ref h_t_reached, .ref h_t_arrived], aJ g h_t_reached 18 a_t_reached, aJ g h_t_arrived 6 a_t_arrived, ob h_p1 2 [.int p1_vertices, .int p1_edges, .ref h_p1_firsts, .ref h_p1_seconds, .ref h_p1_signs], aI g h_p1_firsts 9 a_p1_firsts, aI g h_p1_seconds 9 a_p1_seconds, aI g h_p1_signs 9 a_p1_signs] [ob h_t 7 [.ref h_t_closed, .ref h_t_closedSigned, .ref h_t_primitive, .ref h_t_primitiveSigned, .ref h_t_reached, .ref h_t_arrived], aJ g h_t_reached 18 R.1, aJ g h_t_arrived 6 R.2, ob h_p1 2 [.int p1_vertices, .int p1_edges, .ref h_p1_firsts, .ref h_p1_seconds, .ref h_p1_signs], aI g h_p1_firsts 9 a_p1_firsts, aI g h_p1_seconds 9 a_p1_seconds, aI g h_p1_signs 9 a_p1_signs] none := by
  refine ct_v (by decide +kernel) (Nat.le_of_ble_eq_true rfl) ?_
  intro p e s m args below meth c Q A ls cx hP hD hA hl hfin
  obtain ⟨hx, hb, hml, hown, hts, hK⟩ := id cx
  have hl : lv_has ls 12 [(0, .ref h_t), (1, .ref h_p1), (2, .int p2)] := hl
  have hS : va_S A s.heap s.heap [] := va_S.rf
  refine lv_aload_n hx hb dX7_goOn_0 rfl (lv_at hl 0 rfl) ?_
  refine w_get cx hP 0 7 5 rfl rfl (by decide) m_144 rfl rfl dX7_goOn_1 ?_
  refine lv_lconst (v := (0 : Int64)) hx hb dX7_goOn_4 (by decide) ?_
  obtain ⟨q_5, hc_5, hM⟩ := bd_some hM
  refine w_callS cx hP hD hS hA (c_J7_fill_d0a16 g l h_t_arrived (0 : Int64) 6 a_t_arrived hc_5) [2] rfl (by decide) rfl [ob h_t 7 [.ref h_t_closed, .ref h_t_closedSigned, .ref h_t_primitive, .ref h_t_primitiveSigned, .ref h_t_reached, .ref h_t_arrived], aJ g h_t_reached 18 a_t_reached, aJ g h_t_arrived 6 q_5, ob h_p1 2 [.int p1_vertices, .int p1_edges, .ref h_p1_firsts, .ref h_p1_seconds, .ref h_p1_signs], aI g h_p1_firsts 9 a_p1_firsts, aI g h_p1_seconds 9 a_p1_seconds, aI g h_p1_signs 9 a_p1_signs] rfl yq_J7_fill_d0a16 m_375 m_376 m_26 m_377 ⟨Nat.le_of_ble_eq_true rfl, Nat.le_of_ble_eq_true rfl⟩ rfl rfl hl.1 (Nat.le_of_ble_eq_true rfl) dX7_goOn_5 ⟨Nat.le_refl 0, Nat.le_refl 0⟩ rfl (fun H locs hP hD hS => ?_)
  refine lv_iconst (v := (nI 0)) hx hb dX7_goOn_8 (by decide) ?_
  refine lv_istore_n (lv' := [(3, .int (nI 0)), (0, .ref h_t), (1, .ref h_p1), (2, .int p2)]) hx hb dX7_goOn_9 rfl hl (by decide) rfl (fun ls hl => ?_)
  obtain ⟨r_10, hw, hM⟩ := bd_some hM
  obtain ⟨n, hn⟩ := wh_some hw
  clear hw
  have hE_10_0 : ∀ (H : Heap) (locs : List Loc) (ls : Array Slot), va_P (gD g) vwCl [ob h_t 7 [.ref h_t_closed, .ref h_t_closedSigned, .ref h_t_primitive, .ref h_t_primitiveSigned, .ref h_t_reached, .ref h_t_arrived], aJ g h_t_reached 18 a_t_reached, aJ g h_t_arrived 6 r_10, ob h_p1 2 [.int p1_vertices, .int p1_edges, .ref h_p1_firsts, .ref h_p1_seconds, .ref h_p1_signs], aI g h_p1_firsts 9 a_p1_firsts, aI g h_p1_seconds 9 a_p1_seconds, aI g h_p1_signs 9 a_p1_signs] H → va_D A [ob h_t 7 [.ref h_t_closed, .ref h_t_closedSigned, .ref h_t_primitive, .ref h_t_primitiveSigned, .ref h_t_reached, .ref h_t_arrived], aJ g h_t_reached 18 a_t_reached, aJ g h_t_arrived 6 r_10, ob h_p1 2 [.int p1_vertices, .int p1_edges, .ref h_p1_firsts, .ref h_p1_seconds, .ref h_p1_signs], aI g h_p1_firsts 9 a_p1_firsts, aI g h_p1_seconds 9 a_p1_seconds, aI g h_p1_signs 9 a_p1_signs] → va_S A s.heap H locs → lv_has ls 12 [(0, .ref h_t), (1, .ref h_p1), (2, .int p2)] → W p l e (rmv 1 24) s m args below meth c H locs 0 0 Q (F0 m 45 ls []) := by
    intro H locs ls hP hD hS hl
    refine lv_iconst (v := (nI 0)) hx hb dX7_goOn_45 (by decide) ?_
    refine lv_istore_n (lv' := [(3, .int (nI 0)), (0, .ref h_t), (1, .ref h_p1), (2, .int p2)]) hx hb dX7_goOn_46 rfl hl (by decide) rfl (fun ls hl => ?_)
    obtain ⟨r_47, hw, hM⟩ := bd_some hM
    obtain ⟨n, hn⟩ := wh_some hw
    clear hw
    have hE_47_0 : ∀ (H : Heap) (locs : List Loc) (ls : Array Slot), va_P (gD g) vwCl [ob h_t 7 [.ref h_t_closed, .ref h_t_closedSigned, .ref h_t_primitive, .ref h_t_primitiveSigned, .ref h_t_reached, .ref h_t_arrived], aJ g h_t_reached 18 r_47, aJ g h_t_arrived 6 r_10, ob h_p1 2 [.int p1_vertices, .int p1_edges, .ref h_p1_firsts, .ref h_p1_seconds, .ref h_p1_signs], aI g h_p1_firsts 9 a_p1_firsts, aI g h_p1_seconds 9 a_p1_seconds, aI g h_p1_signs 9 a_p1_signs] H → va_D A [ob h_t 7 [.ref h_t_closed, .ref h_t_closedSigned, .ref h_t_primitive, .ref h_t_primitiveSigned, .ref h_t_reached, .ref h_t_arrived], aJ g h_t_reached 18 r_47, aJ g h_t_arrived 6 r_10, ob h_p1 2 [.int p1_vertices, .int p1_edges, .ref h_p1_firsts, .ref h_p1_seconds, .ref h_p1_signs], aI g h_p1_firsts 9 a_p1_firsts, aI g h_p1_seconds 9 a_p1_seconds, aI g h_p1_signs 9 a_p1_signs] → va_S A s.heap H locs → lv_has ls 12 [] → W p l e (rmv 1 24) s m args below meth c H locs 0 0 Q (F0 m 156 ls []) := by
      intro H locs ls hP hD hS hl
      obtain rfl := Option.some.inj hM
      exact hfin 156 _ _ _ dX7_goOn_156 hP hD hS
    clear hM
    have hL_47 : ∀ (n : Nat) (z_47 : Int32 × (Nat → Int64)), it (b_X7_goOn_47 p2 p1_vertices p1_edges a_p1_firsts a_p1_seconds a_p1_signs r_10) n z_47 = some r_47 → ∀ (H : Heap) (locs : List Loc) (ls : Array Slot), va_P (gD g) vwCl [ob h_t 7 [.ref h_t_closed, .ref h_t_closedSigned, .ref h_t_primitive, .ref h_t_primitiveSigned, .ref h_t_reached, .ref h_t_arrived], aJ g h_t_reached 18 z_47.2, aJ g h_t_arrived 6 r_10, ob h_p1 2 [.int p1_vertices, .int p1_edges, .ref h_p1_firsts, .ref h_p1_seconds, .ref h_p1_signs], aI g h_p1_firsts 9 a_p1_firsts, aI g h_p1_seconds 9 a_p1_seconds, aI g h_p1_signs 9 a_p1_signs] H → va_D A [ob h_t 7 [.ref h_t_closed, .ref h_t_closedSigned, .ref h_t_primitive, .ref h_t_primitiveSigned, .ref h_t_reached, .ref h_t_arrived], aJ g h_t_reached 18 z_47.2, aJ g h_t_arrived 6 r_10, ob h_p1 2 [.int p1_vertices, .int p1_edges, .ref h_p1_firsts, .ref h_p1_seconds, .ref h_p1_signs], aI g h_p1_firsts 9 a_p1_firsts, aI g h_p1_seconds 9 a_p1_seconds, aI g h_p1_signs 9 a_p1_signs] → va_S A s.heap H locs → lv_has ls 12 [(3, .int z_47.1), (0, .ref h_t), (1, .ref h_p1), (2, .int p2)] → W p l e (rmv 1 24) s m args below meth c H locs 0 0 Q (F0 m 47 ls []) := by
      intro n
      induction n with
      | zero => intro z_47 hn; exact (it_zero hn).elim
      | succ n ih =>
        intro z_47 hn H locs ls hP hD hS hl
        obtain ⟨x, hM, hX⟩ := it_succ hn
        clear hn
        refine lv_iload_n hx hb dX7_goOn_47 rfl (lv_at hl 0 rfl) ?_
        refine lv_aload_n hx hb dX7_goOn_48 rfl (lv_at hl 2 rfl) ?_
        refine w_getN cx hP 3 2 1 rfl rfl (by decide) n_51 rfl rfl dX7_goOn_49 ?_
        refine lv_icmp_ge (tgt := 156) hx hb dX7_goOn_52 (by decide) (fun c_52 => ?_) (fun c_52 => ?_)
        · have hM := if_t hM c_52
          obtain rfl := Option.some.inj hM
          obtain rfl : _ = r_47 := hX
          exact hE_47_0 _ _ _ hP hD hS (lv_sub hl [] rfl)
        · have hM := if_f hM c_52
          refine lv_iconst (v := (nI 2)) hx hb dX7_goOn_55 (by decide) ?_
          refine lv_iload_n hx hb dX7_goOn_56 rfl (lv_at hl 0 rfl) ?_
          refine lv_imul hx hb dX7_goOn_57 ?_
          refine lv_topi (fun x_58 ex_58 => ?_)
          have hM := nm_some hM x_58 ex_58
          refine lv_istore (lv' := [(4, .int x_58), (3, .int z_47.1), (0, .ref h_t), (1, .ref h_p1), (2, .int p2)]) hx hb dX7_goOn_58 hl (by decide) rfl (fun ls hl => ?_)
          refine lv_iconst (v := (nI 2)) hx hb dX7_goOn_60 (by decide) ?_
          refine lv_iload_n hx hb dX7_goOn_61 rfl (lv_at hl 1 rfl) ?_
          refine lv_imul hx hb dX7_goOn_62 ?_
          refine lv_iconst (v := (nI 1)) hx hb dX7_goOn_63 (by decide) ?_
          refine lv_iadd hx hb dX7_goOn_64 ?_
          refine lv_topi (fun x_65 ex_65 => ?_)
          have hM := nm_some hM x_65 ex_65
          refine lv_istore (lv' := [(5, .int x_65), (4, .int x_58), (3, .int z_47.1), (0, .ref h_t), (1, .ref h_p1), (2, .int p2)]) hx hb dX7_goOn_65 hl (by decide) rfl (fun ls hl => ?_)
          refine lv_iload_n hx hb dX7_goOn_67 rfl (lv_at hl 5 rfl) ?_
          obtain ⟨j_68, hB, hM⟩ := bd_some hM
          have hJ_68 : ∀ (H : Heap) (locs : List Loc) (ls : Array Slot), va_P (gD g) vwCl [ob h_t 7 [.ref h_t_closed, .ref h_t_closedSigned, .ref h_t_primitive, .ref h_t_primitiveSigned, .ref h_t_reached, .ref h_t_arrived], aJ g h_t_reached 18 z_47.2, aJ g h_t_arrived 6 r_10, ob h_p1 2 [.int p1_vertices, .int p1_edges, .ref h_p1_firsts, .ref h_p1_seconds, .ref h_p1_signs], aI g h_p1_firsts 9 a_p1_firsts, aI g h_p1_seconds 9 a_p1_seconds, aI g h_p1_signs 9 a_p1_signs] H → va_D A [ob h_t 7 [.ref h_t_closed, .ref h_t_closedSigned, .ref h_t_primitive, .ref h_t_primitiveSigned, .ref h_t_reached, .ref h_t_arrived], aJ g h_t_reached 18 z_47.2, aJ g h_t_arrived 6 r_10, ob h_p1 2 [.int p1_vertices, .int p1_edges, .ref h_p1_firsts, .ref h_p1_seconds, .ref h_p1_signs], aI g h_p1_firsts 9 a_p1_firsts, aI g h_p1_seconds 9 a_p1_seconds, aI g h_p1_signs 9 a_p1_signs] → va_S A s.heap H locs → lv_has ls 12 [(5, .int x_65), (4, .int x_58), (3, .int z_47.1), (0, .ref h_t), (1, .ref h_p1), (2, .int p2)] → W p l e (rmv 1 24) s m args below meth c H locs 0 0 Q (F0 m 82 ls [.long j_68]) := by
            intro H locs ls hP hD hS hl
            refine lv_lstore (lv' := [(6, .long j_68), (5, .int x_65), (4, .int x_58), (3, .int z_47.1), (0, .ref h_t), (1, .ref h_p1), (2, .int p2)]) hx hb dX7_goOn_82 hl (by decide) rfl (fun ls hl => ?_)
            refine lv_aload_n hx hb dX7_goOn_84 rfl (lv_at hl 4 rfl) ?_
            refine w_get cx hP 0 7 5 rfl rfl (by decide) m_144 rfl rfl dX7_goOn_85 ?_
            refine lv_aload_n hx hb dX7_goOn_88 rfl (lv_at hl 5 rfl) ?_
            refine lv_iload hx hb dX7_goOn_89 (lv_at hl 2 rfl) ?_
            obtain ⟨q_91, hc_91, hM⟩ := bd_some hM
            refine w_callV cx hP hD hS hA (c_X2_startOf g l h_p1 h_p1_firsts h_p1_seconds h_p1_signs x_58 p1_vertices p1_edges a_p1_firsts a_p1_seconds hc_91) [3, 4, 5] rfl (by decide) rfl [ob h_t 7 [.ref h_t_closed, .ref h_t_closedSigned, .ref h_t_primitive, .ref h_t_primitiveSigned, .ref h_t_reached, .ref h_t_arrived], aJ g h_t_reached 18 z_47.2, aJ g h_t_arrived 6 r_10, ob h_p1 2 [.int p1_vertices, .int p1_edges, .ref h_p1_firsts, .ref h_p1_seconds, .ref h_p1_signs], aI g h_p1_firsts 9 a_p1_firsts, aI g h_p1_seconds 9 a_p1_seconds, aI g h_p1_signs 9 a_p1_signs] rfl 3 2 rfl rfl yq_X2_startOf rfl m_383 m_384 m_385 m_18 m_386 ⟨Nat.le_of_ble_eq_true rfl, Nat.le_of_ble_eq_true rfl⟩ rfl rfl hl.1 (Nat.le_of_ble_eq_true rfl) dX7_goOn_91 ⟨Nat.le_refl 0, Nat.le_refl 0⟩ rfl (fun H locs hP hD hS => ?_)
            obtain ⟨g_94, hM⟩ := gd_some hM
            refine w_lald cx hP 2 rfl g_94 dX7_goOn_94 ?_
            refine lv_aload_n hx hb dX7_goOn_95 rfl (lv_at hl 4 rfl) ?_
            refine w_get cx hP 0 7 4 rfl rfl (by decide) m_143 rfl rfl dX7_goOn_96 ?_
            refine lv_iload hx hb dX7_goOn_99 (lv_at hl 1 rfl) ?_
            obtain ⟨g_101, hM⟩ := gd_some hM
            refine w_lald cx hP 1 rfl g_101 dX7_goOn_101 ?_
            refine lv_lsub hx hb dX7_goOn_102 ?_
            refine lv_topl (fun x_103 ex_103 => ?_)
            have hM := nm_some hM x_103 ex_103
            refine lv_lstore (lv' := [(8, .long x_103), (6, .long j_68), (5, .int x_65), (4, .int x_58), (3, .int z_47.1), (0, .ref h_t), (1, .ref h_p1), (2, .int p2)]) hx hb dX7_goOn_103 hl (by decide) rfl (fun ls hl => ?_)
            refine lv_aload_n hx hb dX7_goOn_105 rfl (lv_at hl 5 rfl) ?_
            refine w_get cx hP 0 7 5 rfl rfl (by decide) m_144 rfl rfl dX7_goOn_106 ?_
            refine lv_aload_n hx hb dX7_goOn_109 rfl (lv_at hl 6 rfl) ?_
            refine lv_iload hx hb dX7_goOn_110 (lv_at hl 2 rfl) ?_
            obtain ⟨q_112, hc_112, hM⟩ := bd_some hM
            refine w_callV cx hP hD hS hA (c_X2_startOf g l h_p1 h_p1_firsts h_p1_seconds h_p1_signs x_65 p1_vertices p1_edges a_p1_firsts a_p1_seconds hc_112) [3, 4, 5] rfl (by decide) rfl [ob h_t 7 [.ref h_t_closed, .ref h_t_closedSigned, .ref h_t_primitive, .ref h_t_primitiveSigned, .ref h_t_reached, .ref h_t_arrived], aJ g h_t_reached 18 z_47.2, aJ g h_t_arrived 6 r_10, ob h_p1 2 [.int p1_vertices, .int p1_edges, .ref h_p1_firsts, .ref h_p1_seconds, .ref h_p1_signs], aI g h_p1_firsts 9 a_p1_firsts, aI g h_p1_seconds 9 a_p1_seconds, aI g h_p1_signs 9 a_p1_signs] rfl 3 2 rfl rfl yq_X2_startOf rfl m_383 m_384 m_385 m_18 m_386 ⟨Nat.le_of_ble_eq_true rfl, Nat.le_of_ble_eq_true rfl⟩ rfl rfl hl.1 (Nat.le_of_ble_eq_true rfl) dX7_goOn_112 ⟨Nat.le_refl 0, Nat.le_refl 0⟩ rfl (fun H locs hP hD hS => ?_)
            obtain ⟨g_115, hM⟩ := gd_some hM
            refine w_lald cx hP 2 rfl g_115 dX7_goOn_115 ?_
            refine lv_aload_n hx hb dX7_goOn_116 rfl (lv_at hl 5 rfl) ?_
            refine w_get cx hP 0 7 4 rfl rfl (by decide) m_143 rfl rfl dX7_goOn_117 ?_
            refine lv_iload hx hb dX7_goOn_120 (lv_at hl 3 rfl) ?_
            obtain ⟨g_122, hM⟩ := gd_some hM
            refine w_lald cx hP 1 rfl g_122 dX7_goOn_122 ?_
            refine lv_lsub hx hb dX7_goOn_123 ?_
            refine lv_topl (fun x_124 ex_124 => ?_)
            have hM := nm_some hM x_124 ex_124
            refine lv_lstore (lv' := [(10, .long x_124), (8, .long x_103), (6, .long j_68), (5, .int x_65), (4, .int x_58), (3, .int z_47.1), (0, .ref h_t), (1, .ref h_p1), (2, .int p2)]) hx hb dX7_goOn_124 hl (by decide) rfl (fun ls hl => ?_)
            refine lv_aload_n hx hb dX7_goOn_126 rfl (lv_at hl 6 rfl) ?_
            refine w_get cx hP 0 7 4 rfl rfl (by decide) m_143 rfl rfl dX7_goOn_127 ?_
            refine lv_iload hx hb dX7_goOn_130 (lv_at hl 4 rfl) ?_
            refine lv_lload hx hb dX7_goOn_132 (lv_at hl 2 rfl) ?_
            refine lv_lload hx hb dX7_goOn_134 (lv_at hl 1 rfl) ?_
            refine lv_lmul hx hb dX7_goOn_136 ?_
            obtain ⟨g_137, hM⟩ := gd_some hM
            refine w_last cx hP hD hS 1 rfl g_137 dX7_goOn_137 [ob h_t 7 [.ref h_t_closed, .ref h_t_closedSigned, .ref h_t_primitive, .ref h_t_primitiveSigned, .ref h_t_reached, .ref h_t_arrived], aJ g h_t_reached 18 (vp_updL z_47.2 x_58.toNatClampNeg (j_68 * x_103)), aJ g h_t_arrived 6 r_10, ob h_p1 2 [.int p1_vertices, .int p1_edges, .ref h_p1_firsts, .ref h_p1_seconds, .ref h_p1_signs], aI g h_p1_firsts 9 a_p1_firsts, aI g h_p1_seconds 9 a_p1_seconds, aI g h_p1_signs 9 a_p1_signs] rfl (fun H locs hP hD hS => ?_)
            refine lv_aload_n hx hb dX7_goOn_138 rfl (lv_at hl 6 rfl) ?_
            refine w_get cx hP 0 7 4 rfl rfl (by decide) m_143 rfl rfl dX7_goOn_139 ?_
            refine lv_iload hx hb dX7_goOn_142 (lv_at hl 3 rfl) ?_
            refine lv_lload hx hb dX7_goOn_144 (lv_at hl 2 rfl) ?_
            refine lv_lload hx hb dX7_goOn_146 (lv_at hl 0 rfl) ?_
            refine lv_lmul hx hb dX7_goOn_148 ?_
            obtain ⟨g_149, hM⟩ := gd_some hM
            refine w_last cx hP hD hS 1 rfl g_149 dX7_goOn_149 [ob h_t 7 [.ref h_t_closed, .ref h_t_closedSigned, .ref h_t_primitive, .ref h_t_primitiveSigned, .ref h_t_reached, .ref h_t_arrived], aJ g h_t_reached 18 (vp_updL (vp_updL z_47.2 x_58.toNatClampNeg (j_68 * x_103)) x_65.toNatClampNeg (j_68 * x_124)), aJ g h_t_arrived 6 r_10, ob h_p1 2 [.int p1_vertices, .int p1_edges, .ref h_p1_firsts, .ref h_p1_seconds, .ref h_p1_signs], aI g h_p1_firsts 9 a_p1_firsts, aI g h_p1_seconds 9 a_p1_seconds, aI g h_p1_signs 9 a_p1_signs] rfl (fun H locs hP hD hS => ?_)
            refine lv_iinc (v := z_47.1 + (nI 1)) (lv' := [(3, .int (z_47.1 + (nI 1))), (10, .long x_124), (8, .long x_103), (6, .long j_68), (5, .int x_65), (4, .int x_58), (0, .ref h_t), (1, .ref h_p1), (2, .int p2)]) hx hb dX7_goOn_150 hl (k := 5) rfl (congrArg (fun q => z_47.1 + q) (show Int32.ofInt (1) = (nI 1) by decide)) (by decide) rfl (fun ls hl => ?_)
            refine lv_goto (tgt := 47) hx hb dX7_goOn_153 (by decide) ?_
            obtain rfl := Option.some.inj hM
            exact ih _ hX _ _ _ hP hD hS (lv_sub hl [0, 6, 7, 8] rfl)
          clear hM
          have hM := hB
          clear hB
          refine lv_if_eq (tgt := 81) hx hb dX7_goOn_68 (by decide) (fun c_68 => ?_) (fun c_68 => ?_)
          · have hM := if_t hM c_68
            refine lv_lconst (v := (1 : Int64)) hx hb dX7_goOn_81 (by decide) ?_
            obtain rfl := Option.some.inj hM
            exact hJ_68 _ _ _ hP hD hS (lv_sub hl [0, 1, 2, 3, 4, 5] rfl)
          · have hM := if_f hM c_68
            refine lv_aload_n hx hb dX7_goOn_71 rfl (lv_at hl 4 rfl) ?_
            refine w_getN cx hP 3 2 4 rfl rfl (by decide) n_59 rfl rfl dX7_goOn_72 ?_
            refine lv_iload_n hx hb dX7_goOn_75 rfl (lv_at hl 2 rfl) ?_
            obtain ⟨g_76, hM⟩ := gd_some hM
            refine w_iald cx hP 6 rfl g_76 dX7_goOn_76 ?_
            refine lv_i2l (v := (a_p1_signs z_47.1.toNatClampNeg).toInt64) hx hb dX7_goOn_77 rfl ?_
            refine lv_goto (tgt := 82) hx hb dX7_goOn_78 (by decide) ?_
            obtain rfl := Option.some.inj hM
            exact hJ_68 _ _ _ hP hD hS (lv_sub hl [0, 1, 2, 3, 4, 5] rfl)
    exact hL_47 n _ hn _ _ _ hP hD hS (lv_sub hl [0, 1, 2, 3] rfl)
  clear hM
  have hL_10 : ∀ (n : Nat) (z_10 : Int32 × (Nat → Int64)), it (b_X7_goOn_10 a_t_reached p1_vertices p1_edges a_p1_firsts a_p1_seconds) n z_10 = some r_10 → ∀ (H : Heap) (locs : List Loc) (ls : Array Slot), va_P (gD g) vwCl [ob h_t 7 [.ref h_t_closed, .ref h_t_closedSigned, .ref h_t_primitive, .ref h_t_primitiveSigned, .ref h_t_reached, .ref h_t_arrived], aJ g h_t_reached 18 a_t_reached, aJ g h_t_arrived 6 z_10.2, ob h_p1 2 [.int p1_vertices, .int p1_edges, .ref h_p1_firsts, .ref h_p1_seconds, .ref h_p1_signs], aI g h_p1_firsts 9 a_p1_firsts, aI g h_p1_seconds 9 a_p1_seconds, aI g h_p1_signs 9 a_p1_signs] H → va_D A [ob h_t 7 [.ref h_t_closed, .ref h_t_closedSigned, .ref h_t_primitive, .ref h_t_primitiveSigned, .ref h_t_reached, .ref h_t_arrived], aJ g h_t_reached 18 a_t_reached, aJ g h_t_arrived 6 z_10.2, ob h_p1 2 [.int p1_vertices, .int p1_edges, .ref h_p1_firsts, .ref h_p1_seconds, .ref h_p1_signs], aI g h_p1_firsts 9 a_p1_firsts, aI g h_p1_seconds 9 a_p1_seconds, aI g h_p1_signs 9 a_p1_signs] → va_S A s.heap H locs → lv_has ls 12 [(3, .int z_10.1), (0, .ref h_t), (1, .ref h_p1), (2, .int p2)] → W p l e (rmv 1 24) s m args below meth c H locs 0 0 Q (F0 m 10 ls []) := by
    intro n
    induction n with
    | zero => intro z_10 hn; exact (it_zero hn).elim
    | succ n ih =>
      intro z_10 hn H locs ls hP hD hS hl
      obtain ⟨x, hM, hX⟩ := it_succ hn
      clear hn
      refine lv_iload_n hx hb dX7_goOn_10 rfl (lv_at hl 0 rfl) ?_
      refine lv_iconst (v := (nI 2)) hx hb dX7_goOn_11 (by decide) ?_
      refine lv_aload_n hx hb dX7_goOn_12 rfl (lv_at hl 2 rfl) ?_
      refine w_getN cx hP 3 2 1 rfl rfl (by decide) n_51 rfl rfl dX7_goOn_13 ?_
      refine lv_imul hx hb dX7_goOn_16 ?_
      refine lv_icmp_ge (tgt := 45) hx hb dX7_goOn_17 (by decide) (fun c_17 => ?_) (fun c_17 => ?_)
      · have hM := if_t hM c_17
        obtain rfl := Option.some.inj hM
        obtain rfl : _ = r_10 := hX
        exact hE_10_0 _ _ _ hP hD hS (lv_sub hl [1, 2, 3] rfl)
      · have hM := if_f hM c_17
        refine lv_aload_n hx hb dX7_goOn_20 rfl (lv_at hl 1 rfl) ?_
        refine w_get cx hP 0 7 5 rfl rfl (by decide) m_144 rfl rfl dX7_goOn_21 ?_
        refine lv_aload_n hx hb dX7_goOn_24 rfl (lv_at hl 2 rfl) ?_
        refine lv_iload_n hx hb dX7_goOn_25 rfl (lv_at hl 0 rfl) ?_
        obtain ⟨q_26, hc_26, hM⟩ := bd_some hM
        refine w_callV cx hP hD hS hA (c_X2_endOf g l h_p1 h_p1_firsts h_p1_seconds h_p1_signs z_10.1 p1_vertices p1_edges a_p1_firsts a_p1_seconds hc_26) [3, 4, 5] rfl (by decide) rfl [ob h_t 7 [.ref h_t_closed, .ref h_t_closedSigned, .ref h_t_primitive, .ref h_t_primitiveSigned, .ref h_t_reached, .ref h_t_arrived], aJ g h_t_reached 18 a_t_reached, aJ g h_t_arrived 6 z_10.2, ob h_p1 2 [.int p1_vertices, .int p1_edges, .ref h_p1_firsts, .ref h_p1_seconds, .ref h_p1_signs], aI g h_p1_firsts 9 a_p1_firsts, aI g h_p1_seconds 9 a_p1_seconds, aI g h_p1_signs 9 a_p1_signs] rfl 3 2 rfl rfl yq_X2_endOf rfl m_382 m_356 m_357 m_18 m_358 ⟨Nat.le_of_ble_eq_true rfl, Nat.le_of_ble_eq_true rfl⟩ rfl rfl hl.1 (Nat.le_of_ble_eq_true rfl) dX7_goOn_26 ⟨Nat.le_refl 0, Nat.le_refl 0⟩ rfl (fun H locs hP hD hS => ?_)
        refine lv_dup2_11 hx hb dX7_goOn_29 rfl rfl ?_
        obtain ⟨g_30, hM⟩ := gd_some hM
        refine w_lald cx hP 2 rfl g_30 dX7_goOn_30 ?_
        refine lv_aload_n hx hb dX7_goOn_31 rfl (lv_at hl 1 rfl) ?_
        refine w_get cx hP 0 7 4 rfl rfl (by decide) m_143 rfl rfl dX7_goOn_32 ?_
        refine lv_iload_n hx hb dX7_goOn_35 rfl (lv_at hl 0 rfl) ?_
        obtain ⟨g_36, hM⟩ := gd_some hM
        refine w_lald cx hP 1 rfl g_36 dX7_goOn_36 ?_
        refine lv_ladd hx hb dX7_goOn_37 ?_
        obtain ⟨g_38, hM⟩ := gd_some hM
        refine w_last cx hP hD hS 2 rfl g_38 dX7_goOn_38 [ob h_t 7 [.ref h_t_closed, .ref h_t_closedSigned, .ref h_t_primitive, .ref h_t_primitiveSigned, .ref h_t_reached, .ref h_t_arrived], aJ g h_t_reached 18 a_t_reached, aJ g h_t_arrived 6 (vp_updL z_10.2 q_26.toNatClampNeg ((z_10.2 q_26.toNatClampNeg) + (a_t_reached z_10.1.toNatClampNeg))), ob h_p1 2 [.int p1_vertices, .int p1_edges, .ref h_p1_firsts, .ref h_p1_seconds, .ref h_p1_signs], aI g h_p1_firsts 9 a_p1_firsts, aI g h_p1_seconds 9 a_p1_seconds, aI g h_p1_signs 9 a_p1_signs] rfl (fun H locs hP hD hS => ?_)
        refine lv_iinc (v := z_10.1 + (nI 1)) (lv' := [(3, .int (z_10.1 + (nI 1))), (0, .ref h_t), (1, .ref h_p1), (2, .int p2)]) hx hb dX7_goOn_39 hl (k := 0) rfl (congrArg (fun q => z_10.1 + q) (show Int32.ofInt (1) = (nI 1) by decide)) (by decide) rfl (fun ls hl => ?_)
        refine lv_goto (tgt := 10) hx hb dX7_goOn_42 (by decide) ?_
        obtain rfl := Option.some.inj hM
        exact ih _ hX _ _ _ hP hD hS (lv_sub hl [0, 1, 2, 3] rfl)
  exact hL_10 n _ hn _ _ _ hP hD hS (lv_sub hl [0, 1, 2, 3] rfl)
noncomputable def b_X7_addReturns_42 (p2 : Int32) (p1_vertices : Int32) (p1_edges : Int32) (a_p1_firsts : Nat → Int32) (a_p1_seconds : Nat → Int32) (a_p1_signs : Nat → Int32) (n_p3 : Nat) (x_21 : Int32) : Int32 × (Nat → Int64) × (Nat → Int64) × (Nat → Int64) → Option ((Int32 × (Nat → Int64) × (Nat → Int64) × (Nat → Int64)) ⊕ (((Nat → Int64) × (Nat → Int64) × (Nat → Int64)))) := fun z_42 =>
  if (nI 18) < z_42.1 then some (.inr (z_42.2.1, z_42.2.2.1, z_42.2.2.2)) else bd (f_X7_goOn p2 z_42.2.1 z_42.2.2.1 p1_vertices p1_edges a_p1_firsts a_p1_seconds a_p1_signs) (fun (q_52 : (Nat → Int64) × (Nat → Int64)) => gd (inb z_42.1 n_p3) (gd (inb x_21 18) (gd (inb z_42.1 n_p3) (some (.inl (z_42.1 + (nI 1), q_52.1, q_52.2, vp_updL z_42.2.2.2 z_42.1.toNatClampNeg ((z_42.2.2.2 z_42.1.toNatClampNeg) + ((2 : Int64) * (q_52.1 x_21.toNatClampNeg)))))))))
noncomputable def b_X7_addReturns_8 (p2 : Int32) (p1_vertices : Int32) (p1_edges : Int32) (a_p1_firsts : Nat → Int32) (a_p1_seconds : Nat → Int32) (a_p1_signs : Nat → Int32) (n_p3 : Nat) : Int32 × (Nat → Int64) × (Nat → Int64) × (Nat → Int64) → Option ((Int32 × (Nat → Int64) × (Nat → Int64) × (Nat → Int64)) ⊕ (((Nat → Int64) × (Nat → Int64) × (Nat → Int64)))) := fun z_8 =>
  if p1_edges ≤ z_8.1 then some (.inr (z_8.2.1, z_8.2.2.1, z_8.2.2.2)) else nm ((nI 2) * z_8.1) (fun (x_21 : Int32) => bd (f_J7_fill_d0a16 (0 : Int64) 18 z_8.2.1) (fun (q_28 : Nat → Int64) => gd (inb x_21 18) (bd (wh (b_X7_addReturns_42 p2 p1_vertices p1_edges a_p1_firsts a_p1_seconds a_p1_signs n_p3 x_21) ((nI 1), vp_updL q_28 x_21.toNatClampNeg (1 : Int64), z_8.2.2.1, z_8.2.2.2)) (fun (r_42 : (Nat → Int64) × (Nat → Int64) × (Nat → Int64)) => some (.inl (z_8.1 + (nI 1), r_42.1, r_42.2.1, r_42.2.2))))))
noncomputable def f_X7_addReturns (p2 : Int32) (a_t_reached : Nat → Int64) (a_t_arrived : Nat → Int64) (p1_vertices : Int32) (p1_edges : Int32) (a_p1_firsts : Nat → Int32) (a_p1_seconds : Nat → Int32) (a_p1_signs : Nat → Int32) (n_p3 : Nat) (a_p3 : Nat → Int64) : Option ((Nat → Int64) × (Nat → Int64) × (Nat → Int64)) :=
  bd (f_J7_fill_d0a16 (0 : Int64) n_p3 a_p3) (fun (q_2 : Nat → Int64) => bd (wh (b_X7_addReturns_8 p2 p1_vertices p1_edges a_p1_firsts a_p1_seconds a_p1_signs n_p3) ((nI 0), a_t_reached, a_t_arrived, q_2)) (fun (r_8 : (Nat → Int64) × (Nat → Int64) × (Nat → Int64)) => some (r_8.1, r_8.2.1, r_8.2.2)))
theorem yq_X7_addReturns : yq yX7_addReturns 3 := by unfold yq; decide +kernel
set_option maxHeartbeats 4000000 in
set_option maxRecDepth 100000 in
theorem c_X7_addReturns (g : GG) (l : Launch) (h_t : Nat) (h_t_closed : Nat) (h_t_closedSigned : Nat) (h_t_primitive : Nat) (h_t_primitiveSigned : Nat) (h_t_reached : Nat) (h_t_arrived : Nat) (h_p1 : Nat) (h_p1_firsts : Nat) (h_p1_seconds : Nat) (h_p1_signs : Nat) (h_p3 : Nat) (p2 : Int32) (a_t_reached : Nat → Int64) (a_t_arrived : Nat → Int64) (p1_vertices : Int32) (p1_edges : Int32) (a_p1_firsts : Nat → Int32) (a_p1_seconds : Nat → Int32) (a_p1_signs : Nat → Int32) (n_p3 : Nat) (a_p3 : Nat → Int64) {R : (Nat → Int64) × (Nat → Int64) × (Nat → Int64)} (hM : f_X7_addReturns p2 a_t_reached a_t_arrived p1_vertices p1_edges a_p1_firsts a_p1_seconds a_p1_signs n_p3 a_p3 = some R) : CT g l yX7_addReturns cX7_addReturns 7 none 2 55 [.ref h_t, .ref h_p1, .int p2, .ref h_p3] [ob h_t 7 [.ref h_t_closed, .ref h_t_closedSigned, .ref h_t_primitive, .ref h_t_primitiveSigned, .ref h_t_reached, .ref h_t_arrived], aJ g h_t_reached 18 a_t_reached, aJ g h_t_arrived 6 a_t_arrived, ob h_p1 2 [.int p1_vertices, .int p1_edges, .ref h_p1_firsts, .ref h_p1_seconds, .ref h_p1_signs], aI g h_p1_firsts 9 a_p1_firsts, aI g h_p1_seconds 9 a_p1_seconds, aI g h_p1_signs 9 a_p1_signs, aJ g h_p3 n_p3 a_p3] [ob h_t 7 [.ref h_t_closed, .ref h_t_closedSigned, .ref h_t_primitive, .ref h_t_primitiveSigned, .ref h_t_reached, .ref h_t_arrived], aJ g h_t_reached 18 R.1, aJ g h_t_arrived 6 R.2.1, ob h_p1 2 [.int p1_vertices, .int p1_edges, .ref h_p1_firsts, .ref h_p1_seconds, .ref h_p1_signs], aI g h_p1_firsts 9 a_p1_firsts, aI g h_p1_seconds 9 a_p1_seconds, aI g h_p1_signs 9 a_p1_signs, aJ g h_p3 n_p3 R.2.2] none := by
  refine ct_v (by decide +kernel) (Nat.le_of_ble_eq_true rfl) ?_
  intro p e s m args below meth c Q A ls cx hP hD hA hl hfin
  obtain ⟨hx, hb, hml, hown, hts, hK⟩ := id cx
  have hl : lv_has ls 7 [(0, .ref h_t), (1, .ref h_p1), (2, .int p2), (3, .ref h_p3)] := hl
  have hS : va_S A s.heap s.heap [] := va_S.rf
  refine lv_aload_n hx hb dX7_addReturns_0 rfl (lv_at hl 3 rfl) ?_
  refine lv_lconst (v := (0 : Int64)) hx hb dX7_addReturns_1 (by decide) ?_
  obtain ⟨q_2, hc_2, hM⟩ := bd_some hM
  refine w_callS cx hP hD hS hA (c_J7_fill_d0a16 g l h_p3 (0 : Int64) n_p3 a_p3 hc_2) [7] rfl (by decide) rfl [ob h_t 7 [.ref h_t_closed, .ref h_t_closedSigned, .ref h_t_primitive, .ref h_t_primitiveSigned, .ref h_t_reached, .ref h_t_arrived], aJ g h_t_reached 18 a_t_reached, aJ g h_t_arrived 6 a_t_arrived, ob h_p1 2 [.int p1_vertices, .int p1_edges, .ref h_p1_firsts, .ref h_p1_seconds, .ref h_p1_signs], aI g h_p1_firsts 9 a_p1_firsts, aI g h_p1_seconds 9 a_p1_seconds, aI g h_p1_signs 9 a_p1_signs, aJ g h_p3 n_p3 q_2] rfl yq_J7_fill_d0a16 m_375 m_376 m_26 m_377 ⟨Nat.le_of_ble_eq_true rfl, Nat.le_of_ble_eq_true rfl⟩ rfl rfl hl.1 (Nat.le_of_ble_eq_true rfl) dX7_addReturns_2 ⟨Nat.le_refl 0, Nat.le_refl 0⟩ rfl (fun H locs hP hD hS => ?_)
  refine lv_iconst (v := (nI 0)) hx hb dX7_addReturns_5 (by decide) ?_
  refine lv_istore (lv' := [(4, .int (nI 0)), (0, .ref h_t), (1, .ref h_p1), (2, .int p2), (3, .ref h_p3)]) hx hb dX7_addReturns_6 hl (by decide) rfl (fun ls hl => ?_)
  obtain ⟨r_8, hw, hM⟩ := bd_some hM
  obtain ⟨n, hn⟩ := wh_some hw
  clear hw
  have hE_8_0 : ∀ (H : Heap) (locs : List Loc) (ls : Array Slot), va_P (gD g) vwCl [ob h_t 7 [.ref h_t_closed, .ref h_t_closedSigned, .ref h_t_primitive, .ref h_t_primitiveSigned, .ref h_t_reached, .ref h_t_arrived], aJ g h_t_reached 18 r_8.1, aJ g h_t_arrived 6 r_8.2.1, ob h_p1 2 [.int p1_vertices, .int p1_edges, .ref h_p1_firsts, .ref h_p1_seconds, .ref h_p1_signs], aI g h_p1_firsts 9 a_p1_firsts, aI g h_p1_seconds 9 a_p1_seconds, aI g h_p1_signs 9 a_p1_signs, aJ g h_p3 n_p3 r_8.2.2] H → va_D A [ob h_t 7 [.ref h_t_closed, .ref h_t_closedSigned, .ref h_t_primitive, .ref h_t_primitiveSigned, .ref h_t_reached, .ref h_t_arrived], aJ g h_t_reached 18 r_8.1, aJ g h_t_arrived 6 r_8.2.1, ob h_p1 2 [.int p1_vertices, .int p1_edges, .ref h_p1_firsts, .ref h_p1_seconds, .ref h_p1_signs], aI g h_p1_firsts 9 a_p1_firsts, aI g h_p1_seconds 9 a_p1_seconds, aI g h_p1_signs 9 a_p1_signs, aJ g h_p3 n_p3 r_8.2.2] → va_S A s.heap H locs → lv_has ls 7 [] → W p l e (rmv 2 55) s m args below meth c H locs 0 0 Q (F0 m 85 ls []) := by
    intro H locs ls hP hD hS hl
    obtain rfl := Option.some.inj hM
    exact hfin 85 _ _ _ dX7_addReturns_85 hP hD hS
  clear hM
  have hL_8 : ∀ (n : Nat) (z_8 : Int32 × (Nat → Int64) × (Nat → Int64) × (Nat → Int64)), it (b_X7_addReturns_8 p2 p1_vertices p1_edges a_p1_firsts a_p1_seconds a_p1_signs n_p3) n z_8 = some r_8 → ∀ (H : Heap) (locs : List Loc) (ls : Array Slot), va_P (gD g) vwCl [ob h_t 7 [.ref h_t_closed, .ref h_t_closedSigned, .ref h_t_primitive, .ref h_t_primitiveSigned, .ref h_t_reached, .ref h_t_arrived], aJ g h_t_reached 18 z_8.2.1, aJ g h_t_arrived 6 z_8.2.2.1, ob h_p1 2 [.int p1_vertices, .int p1_edges, .ref h_p1_firsts, .ref h_p1_seconds, .ref h_p1_signs], aI g h_p1_firsts 9 a_p1_firsts, aI g h_p1_seconds 9 a_p1_seconds, aI g h_p1_signs 9 a_p1_signs, aJ g h_p3 n_p3 z_8.2.2.2] H → va_D A [ob h_t 7 [.ref h_t_closed, .ref h_t_closedSigned, .ref h_t_primitive, .ref h_t_primitiveSigned, .ref h_t_reached, .ref h_t_arrived], aJ g h_t_reached 18 z_8.2.1, aJ g h_t_arrived 6 z_8.2.2.1, ob h_p1 2 [.int p1_vertices, .int p1_edges, .ref h_p1_firsts, .ref h_p1_seconds, .ref h_p1_signs], aI g h_p1_firsts 9 a_p1_firsts, aI g h_p1_seconds 9 a_p1_seconds, aI g h_p1_signs 9 a_p1_signs, aJ g h_p3 n_p3 z_8.2.2.2] → va_S A s.heap H locs → lv_has ls 7 [(4, .int z_8.1), (0, .ref h_t), (1, .ref h_p1), (2, .int p2), (3, .ref h_p3)] → W p l e (rmv 2 55) s m args below meth c H locs 0 0 Q (F0 m 8 ls []) := by
    intro n
    induction n with
    | zero => intro z_8 hn; exact (it_zero hn).elim
    | succ n ih =>
      intro z_8 hn H locs ls hP hD hS hl
      obtain ⟨x, hM, hX⟩ := it_succ hn
      clear hn
      refine lv_iload hx hb dX7_addReturns_8 (lv_at hl 0 rfl) ?_
      refine lv_aload_n hx hb dX7_addReturns_10 rfl (lv_at hl 2 rfl) ?_
      refine w_getN cx hP 3 2 1 rfl rfl (by decide) n_51 rfl rfl dX7_addReturns_11 ?_
      refine lv_icmp_ge (tgt := 85) hx hb dX7_addReturns_14 (by decide) (fun c_14 => ?_) (fun c_14 => ?_)
      · have hM := if_t hM c_14
        obtain rfl := Option.some.inj hM
        obtain rfl : _ = r_8 := hX
        exact hE_8_0 _ _ _ hP hD hS (lv_sub hl [] rfl)
      · have hM := if_f hM c_14
        refine lv_iconst (v := (nI 2)) hx hb dX7_addReturns_17 (by decide) ?_
        refine lv_iload hx hb dX7_addReturns_18 (lv_at hl 0 rfl) ?_
        refine lv_imul hx hb dX7_addReturns_20 ?_
        refine lv_topi (fun x_21 ex_21 => ?_)
        have hM := nm_some hM x_21 ex_21
        refine lv_istore (lv' := [(5, .int x_21), (4, .int z_8.1), (0, .ref h_t), (1, .ref h_p1), (2, .int p2), (3, .ref h_p3)]) hx hb dX7_addReturns_21 hl (by decide) rfl (fun ls hl => ?_)
        refine lv_aload_n hx hb dX7_addReturns_23 rfl (lv_at hl 2 rfl) ?_
        refine w_get cx hP 0 7 4 rfl rfl (by decide) m_143 rfl rfl dX7_addReturns_24 ?_
        refine lv_lconst (v := (0 : Int64)) hx hb dX7_addReturns_27 (by decide) ?_
        obtain ⟨q_28, hc_28, hM⟩ := bd_some hM
        refine w_callS cx hP hD hS hA (c_J7_fill_d0a16 g l h_t_reached (0 : Int64) 18 z_8.2.1 hc_28) [1] rfl (by decide) rfl [ob h_t 7 [.ref h_t_closed, .ref h_t_closedSigned, .ref h_t_primitive, .ref h_t_primitiveSigned, .ref h_t_reached, .ref h_t_arrived], aJ g h_t_reached 18 q_28, aJ g h_t_arrived 6 z_8.2.2.1, ob h_p1 2 [.int p1_vertices, .int p1_edges, .ref h_p1_firsts, .ref h_p1_seconds, .ref h_p1_signs], aI g h_p1_firsts 9 a_p1_firsts, aI g h_p1_seconds 9 a_p1_seconds, aI g h_p1_signs 9 a_p1_signs, aJ g h_p3 n_p3 z_8.2.2.2] rfl yq_J7_fill_d0a16 m_375 m_376 m_26 m_377 ⟨Nat.le_of_ble_eq_true rfl, Nat.le_of_ble_eq_true rfl⟩ rfl rfl hl.1 (Nat.le_of_ble_eq_true rfl) dX7_addReturns_28 ⟨Nat.le_refl 0, Nat.le_refl 0⟩ rfl (fun H locs hP hD hS => ?_)
        refine lv_aload_n hx hb dX7_addReturns_31 rfl (lv_at hl 2 rfl) ?_
        refine w_get cx hP 0 7 4 rfl rfl (by decide) m_143 rfl rfl dX7_addReturns_32 ?_
        refine lv_iload hx hb dX7_addReturns_35 (lv_at hl 0 rfl) ?_
        refine lv_lconst (v := (1 : Int64)) hx hb dX7_addReturns_37 (by decide) ?_
        obtain ⟨g_38, hM⟩ := gd_some hM
        refine w_last cx hP hD hS 1 rfl g_38 dX7_addReturns_38 [ob h_t 7 [.ref h_t_closed, .ref h_t_closedSigned, .ref h_t_primitive, .ref h_t_primitiveSigned, .ref h_t_reached, .ref h_t_arrived], aJ g h_t_reached 18 (vp_updL q_28 x_21.toNatClampNeg (1 : Int64)), aJ g h_t_arrived 6 z_8.2.2.1, ob h_p1 2 [.int p1_vertices, .int p1_edges, .ref h_p1_firsts, .ref h_p1_seconds, .ref h_p1_signs], aI g h_p1_firsts 9 a_p1_firsts, aI g h_p1_seconds 9 a_p1_seconds, aI g h_p1_signs 9 a_p1_signs, aJ g h_p3 n_p3 z_8.2.2.2] rfl (fun H locs hP hD hS => ?_)
        refine lv_iconst (v := (nI 1)) hx hb dX7_addReturns_39 (by decide) ?_
        refine lv_istore (lv' := [(6, .int (nI 1)), (5, .int x_21), (4, .int z_8.1), (0, .ref h_t), (1, .ref h_p1), (2, .int p2), (3, .ref h_p3)]) hx hb dX7_addReturns_40 hl (by decide) rfl (fun ls hl => ?_)
        obtain ⟨r_42, hw, hM⟩ := bd_some hM
        obtain ⟨n, hn⟩ := wh_some hw
        clear hw
        have hE_42_0 : ∀ (H : Heap) (locs : List Loc) (ls : Array Slot), va_P (gD g) vwCl [ob h_t 7 [.ref h_t_closed, .ref h_t_closedSigned, .ref h_t_primitive, .ref h_t_primitiveSigned, .ref h_t_reached, .ref h_t_arrived], aJ g h_t_reached 18 r_42.1, aJ g h_t_arrived 6 r_42.2.1, ob h_p1 2 [.int p1_vertices, .int p1_edges, .ref h_p1_firsts, .ref h_p1_seconds, .ref h_p1_signs], aI g h_p1_firsts 9 a_p1_firsts, aI g h_p1_seconds 9 a_p1_seconds, aI g h_p1_signs 9 a_p1_signs, aJ g h_p3 n_p3 r_42.2.2] H → va_D A [ob h_t 7 [.ref h_t_closed, .ref h_t_closedSigned, .ref h_t_primitive, .ref h_t_primitiveSigned, .ref h_t_reached, .ref h_t_arrived], aJ g h_t_reached 18 r_42.1, aJ g h_t_arrived 6 r_42.2.1, ob h_p1 2 [.int p1_vertices, .int p1_edges, .ref h_p1_firsts, .ref h_p1_seconds, .ref h_p1_signs], aI g h_p1_firsts 9 a_p1_firsts, aI g h_p1_seconds 9 a_p1_seconds, aI g h_p1_signs 9 a_p1_signs, aJ g h_p3 n_p3 r_42.2.2] → va_S A s.heap H locs → lv_has ls 7 [(4, .int z_8.1), (0, .ref h_t), (1, .ref h_p1), (2, .int p2), (3, .ref h_p3)] → W p l e (rmv 2 55) s m args below meth c H locs 0 0 Q (F0 m 79 ls []) := by
          intro H locs ls hP hD hS hl
          refine lv_iinc (v := z_8.1 + (nI 1)) (lv' := [(4, .int (z_8.1 + (nI 1))), (0, .ref h_t), (1, .ref h_p1), (2, .int p2), (3, .ref h_p3)]) hx hb dX7_addReturns_79 hl (k := 0) rfl (congrArg (fun q => z_8.1 + q) (show Int32.ofInt (1) = (nI 1) by decide)) (by decide) rfl (fun ls hl => ?_)
          refine lv_goto (tgt := 8) hx hb dX7_addReturns_82 (by decide) ?_
          obtain rfl := Option.some.inj hM
          exact ih _ hX _ _ _ hP hD hS (lv_sub hl [0, 1, 2, 3, 4] rfl)
        clear hM
        have hL_42 : ∀ (n : Nat) (z_42 : Int32 × (Nat → Int64) × (Nat → Int64) × (Nat → Int64)), it (b_X7_addReturns_42 p2 p1_vertices p1_edges a_p1_firsts a_p1_seconds a_p1_signs n_p3 x_21) n z_42 = some r_42 → ∀ (H : Heap) (locs : List Loc) (ls : Array Slot), va_P (gD g) vwCl [ob h_t 7 [.ref h_t_closed, .ref h_t_closedSigned, .ref h_t_primitive, .ref h_t_primitiveSigned, .ref h_t_reached, .ref h_t_arrived], aJ g h_t_reached 18 z_42.2.1, aJ g h_t_arrived 6 z_42.2.2.1, ob h_p1 2 [.int p1_vertices, .int p1_edges, .ref h_p1_firsts, .ref h_p1_seconds, .ref h_p1_signs], aI g h_p1_firsts 9 a_p1_firsts, aI g h_p1_seconds 9 a_p1_seconds, aI g h_p1_signs 9 a_p1_signs, aJ g h_p3 n_p3 z_42.2.2.2] H → va_D A [ob h_t 7 [.ref h_t_closed, .ref h_t_closedSigned, .ref h_t_primitive, .ref h_t_primitiveSigned, .ref h_t_reached, .ref h_t_arrived], aJ g h_t_reached 18 z_42.2.1, aJ g h_t_arrived 6 z_42.2.2.1, ob h_p1 2 [.int p1_vertices, .int p1_edges, .ref h_p1_firsts, .ref h_p1_seconds, .ref h_p1_signs], aI g h_p1_firsts 9 a_p1_firsts, aI g h_p1_seconds 9 a_p1_seconds, aI g h_p1_signs 9 a_p1_signs, aJ g h_p3 n_p3 z_42.2.2.2] → va_S A s.heap H locs → lv_has ls 7 [(6, .int z_42.1), (5, .int x_21), (4, .int z_8.1), (0, .ref h_t), (1, .ref h_p1), (2, .int p2), (3, .ref h_p3)] → W p l e (rmv 2 55) s m args below meth c H locs 0 0 Q (F0 m 42 ls []) := by
          intro n
          induction n with
          | zero => intro z_42 hn; exact (it_zero hn).elim
          | succ n ih =>
            intro z_42 hn H locs ls hP hD hS hl
            obtain ⟨x, hM, hX⟩ := it_succ hn
            clear hn
            refine lv_iload hx hb dX7_addReturns_42 (lv_at hl 0 rfl) ?_
            refine lv_bipush (v := (nI 18)) hx hb dX7_addReturns_44 (by decide) ?_
            refine lv_icmp_gt (tgt := 79) hx hb dX7_addReturns_46 (by decide) (fun c_46 => ?_) (fun c_46 => ?_)
            · have hM := if_t hM c_46
              obtain rfl := Option.some.inj hM
              obtain rfl : _ = r_42 := hX
              exact hE_42_0 _ _ _ hP hD hS (lv_sub hl [2, 3, 4, 5, 6] rfl)
            · have hM := if_f hM c_46
              refine lv_aload_n hx hb dX7_addReturns_49 rfl (lv_at hl 3 rfl) ?_
              refine lv_aload_n hx hb dX7_addReturns_50 rfl (lv_at hl 4 rfl) ?_
              refine lv_iload_n hx hb dX7_addReturns_51 rfl (lv_at hl 5 rfl) ?_
              obtain ⟨q_52, hc_52, hM⟩ := bd_some hM
              refine w_callV cx hP hD hS hA (c_X7_goOn g l h_t h_t_closed h_t_closedSigned h_t_primitive h_t_primitiveSigned h_t_reached h_t_arrived h_p1 h_p1_firsts h_p1_seconds h_p1_signs p2 z_42.2.1 z_42.2.2.1 p1_vertices p1_edges a_p1_firsts a_p1_seconds a_p1_signs hc_52) [0, 1, 2, 3, 4, 5, 6] rfl (by decide) rfl [ob h_t 7 [.ref h_t_closed, .ref h_t_closedSigned, .ref h_t_primitive, .ref h_t_primitiveSigned, .ref h_t_reached, .ref h_t_arrived], aJ g h_t_reached 18 q_52.1, aJ g h_t_arrived 6 q_52.2, ob h_p1 2 [.int p1_vertices, .int p1_edges, .ref h_p1_firsts, .ref h_p1_seconds, .ref h_p1_signs], aI g h_p1_firsts 9 a_p1_firsts, aI g h_p1_seconds 9 a_p1_seconds, aI g h_p1_signs 9 a_p1_signs, aJ g h_p3 n_p3 z_42.2.2.2] rfl 0 7 rfl rfl yq_X7_goOn rfl m_378 m_380 m_7 m_22 m_381 ⟨Nat.le_of_ble_eq_true rfl, Nat.le_of_ble_eq_true rfl⟩ rfl rfl hl.1 (Nat.le_of_ble_eq_true rfl) dX7_addReturns_52 ⟨Nat.le_refl 0, Nat.le_refl 0⟩ rfl (fun H locs hP hD hS => ?_)
              refine lv_aload_n hx hb dX7_addReturns_55 rfl (lv_at hl 6 rfl) ?_
              refine lv_iload hx hb dX7_addReturns_56 (lv_at hl 0 rfl) ?_
              refine lv_dup2_11 hx hb dX7_addReturns_58 rfl rfl ?_
              obtain ⟨g_59, hM⟩ := gd_some hM
              refine w_lald cx hP 7 rfl g_59 dX7_addReturns_59 ?_
              refine lv_ldc2 hx hb hown (hts _ m_387) dX7_addReturns_60 ?_
              refine lv_aload_n hx hb dX7_addReturns_63 rfl (lv_at hl 3 rfl) ?_
              refine w_get cx hP 0 7 4 rfl rfl (by decide) m_143 rfl rfl dX7_addReturns_64 ?_
              refine lv_iload hx hb dX7_addReturns_67 (lv_at hl 1 rfl) ?_
              obtain ⟨g_69, hM⟩ := gd_some hM
              refine w_lald cx hP 1 rfl g_69 dX7_addReturns_69 ?_
              refine lv_lmul hx hb dX7_addReturns_70 ?_
              refine lv_ladd hx hb dX7_addReturns_71 ?_
              obtain ⟨g_72, hM⟩ := gd_some hM
              refine w_last cx hP hD hS 7 rfl g_72 dX7_addReturns_72 [ob h_t 7 [.ref h_t_closed, .ref h_t_closedSigned, .ref h_t_primitive, .ref h_t_primitiveSigned, .ref h_t_reached, .ref h_t_arrived], aJ g h_t_reached 18 q_52.1, aJ g h_t_arrived 6 q_52.2, ob h_p1 2 [.int p1_vertices, .int p1_edges, .ref h_p1_firsts, .ref h_p1_seconds, .ref h_p1_signs], aI g h_p1_firsts 9 a_p1_firsts, aI g h_p1_seconds 9 a_p1_seconds, aI g h_p1_signs 9 a_p1_signs, aJ g h_p3 n_p3 (vp_updL z_42.2.2.2 z_42.1.toNatClampNeg ((z_42.2.2.2 z_42.1.toNatClampNeg) + ((2 : Int64) * (q_52.1 x_21.toNatClampNeg))))] rfl (fun H locs hP hD hS => ?_)
              refine lv_iinc (v := z_42.1 + (nI 1)) (lv' := [(6, .int (z_42.1 + (nI 1))), (5, .int x_21), (4, .int z_8.1), (0, .ref h_t), (1, .ref h_p1), (2, .int p2), (3, .ref h_p3)]) hx hb dX7_addReturns_73 hl (k := 0) rfl (congrArg (fun q => z_42.1 + q) (show Int32.ofInt (1) = (nI 1) by decide)) (by decide) rfl (fun ls hl => ?_)
              refine lv_goto (tgt := 42) hx hb dX7_addReturns_76 (by decide) ?_
              obtain rfl := Option.some.inj hM
              exact ih _ hX _ _ _ hP hD hS (lv_sub hl [0, 1, 2, 3, 4, 5, 6] rfl)
        exact hL_42 n _ hn _ _ _ hP hD hS (lv_sub hl [0, 1, 2, 3, 4, 5, 6] rfl)
  exact hL_8 n _ hn _ _ _ hP hD hS (lv_sub hl [0, 1, 2, 3, 4] rfl)
noncomputable def f_X7_countClosed (a_t_closed : Nat → Int64) (a_t_reached : Nat → Int64) (a_t_arrived : Nat → Int64) (p1_vertices : Int32) (p1_edges : Int32) (a_p1_firsts : Nat → Int32) (a_p1_seconds : Nat → Int32) (a_p1_signs : Nat → Int32) : Option ((Nat → Int64) × (Nat → Int64) × (Nat → Int64)) :=
  bd (f_X7_addReturns (nI 0) a_t_reached a_t_arrived p1_vertices p1_edges a_p1_firsts a_p1_seconds a_p1_signs 19 a_t_closed) (fun (q_7 : (Nat → Int64) × (Nat → Int64) × (Nat → Int64)) => some (q_7.2.2, q_7.1, q_7.2.1))
theorem yq_X7_countClosed : yq yX7_countClosed 1 := by unfold yq; decide +kernel
set_option maxHeartbeats 4000000 in
set_option maxRecDepth 100000 in
theorem c_X7_countClosed (g : GG) (l : Launch) (h_t : Nat) (h_t_closed : Nat) (h_t_closedSigned : Nat) (h_t_primitive : Nat) (h_t_primitiveSigned : Nat) (h_t_reached : Nat) (h_t_arrived : Nat) (h_p1 : Nat) (h_p1_firsts : Nat) (h_p1_seconds : Nat) (h_p1_signs : Nat) (a_t_closed : Nat → Int64) (a_t_reached : Nat → Int64) (a_t_arrived : Nat → Int64) (p1_vertices : Int32) (p1_edges : Int32) (a_p1_firsts : Nat → Int32) (a_p1_seconds : Nat → Int32) (a_p1_signs : Nat → Int32) {R : (Nat → Int64) × (Nat → Int64) × (Nat → Int64)} (hM : f_X7_countClosed a_t_closed a_t_reached a_t_arrived p1_vertices p1_edges a_p1_firsts a_p1_seconds a_p1_signs = some R) : CT g l yX7_countClosed cX7_countClosed 2 none 3 81 [.ref h_t, .ref h_p1] [ob h_t 7 [.ref h_t_closed, .ref h_t_closedSigned, .ref h_t_primitive, .ref h_t_primitiveSigned, .ref h_t_reached, .ref h_t_arrived], aJ g h_t_closed 19 a_t_closed, aJ g h_t_reached 18 a_t_reached, aJ g h_t_arrived 6 a_t_arrived, ob h_p1 2 [.int p1_vertices, .int p1_edges, .ref h_p1_firsts, .ref h_p1_seconds, .ref h_p1_signs], aI g h_p1_firsts 9 a_p1_firsts, aI g h_p1_seconds 9 a_p1_seconds, aI g h_p1_signs 9 a_p1_signs] [ob h_t 7 [.ref h_t_closed, .ref h_t_closedSigned, .ref h_t_primitive, .ref h_t_primitiveSigned, .ref h_t_reached, .ref h_t_arrived], aJ g h_t_closed 19 R.1, aJ g h_t_reached 18 R.2.1, aJ g h_t_arrived 6 R.2.2, ob h_p1 2 [.int p1_vertices, .int p1_edges, .ref h_p1_firsts, .ref h_p1_seconds, .ref h_p1_signs], aI g h_p1_firsts 9 a_p1_firsts, aI g h_p1_seconds 9 a_p1_seconds, aI g h_p1_signs 9 a_p1_signs] none := by
  refine ct_v (by decide +kernel) (Nat.le_of_ble_eq_true rfl) ?_
  intro p e s m args below meth c Q A ls cx hP hD hA hl hfin
  obtain ⟨hx, hb, hml, hown, hts, hK⟩ := id cx
  have hl : lv_has ls 2 [(0, .ref h_t), (1, .ref h_p1)] := hl
  have hS : va_S A s.heap s.heap [] := va_S.rf
  refine lv_aload_n hx hb dX7_countClosed_0 rfl (lv_at hl 0 rfl) ?_
  refine lv_aload_n hx hb dX7_countClosed_1 rfl (lv_at hl 1 rfl) ?_
  refine lv_iconst (v := (nI 0)) hx hb dX7_countClosed_2 (by decide) ?_
  refine lv_aload_n hx hb dX7_countClosed_3 rfl (lv_at hl 0 rfl) ?_
  refine w_get cx hP 0 7 0 rfl rfl (by decide) m_135 rfl rfl dX7_countClosed_4 ?_
  obtain ⟨q_7, hc_7, hM⟩ := bd_some hM
  refine w_callV cx hP hD hS hA (c_X7_addReturns g l h_t h_t_closed h_t_closedSigned h_t_primitive h_t_primitiveSigned h_t_reached h_t_arrived h_p1 h_p1_firsts h_p1_seconds h_p1_signs h_t_closed (nI 0) a_t_reached a_t_arrived p1_vertices p1_edges a_p1_firsts a_p1_seconds a_p1_signs 19 a_t_closed hc_7) [0, 2, 3, 4, 5, 6, 7, 1] rfl (by decide) rfl [ob h_t 7 [.ref h_t_closed, .ref h_t_closedSigned, .ref h_t_primitive, .ref h_t_primitiveSigned, .ref h_t_reached, .ref h_t_arrived], aJ g h_t_closed 19 q_7.2.2, aJ g h_t_reached 18 q_7.1, aJ g h_t_arrived 6 q_7.2.1, ob h_p1 2 [.int p1_vertices, .int p1_edges, .ref h_p1_firsts, .ref h_p1_seconds, .ref h_p1_signs], aI g h_p1_firsts 9 a_p1_firsts, aI g h_p1_seconds 9 a_p1_seconds, aI g h_p1_signs 9 a_p1_signs] rfl 0 7 rfl rfl yq_X7_addReturns rfl m_371 m_373 m_6 m_22 m_374 ⟨Nat.le_of_ble_eq_true rfl, Nat.le_of_ble_eq_true rfl⟩ rfl rfl hl.1 (Nat.le_of_ble_eq_true rfl) dX7_countClosed_7 ⟨Nat.le_refl 0, Nat.le_refl 0⟩ rfl (fun H locs hP hD hS => ?_)
  obtain rfl := Option.some.inj hM
  exact hfin 10 _ _ _ dX7_countClosed_10 hP hD hS
noncomputable def f_X7_countClosedSigned (a_t_closedSigned : Nat → Int64) (a_t_reached : Nat → Int64) (a_t_arrived : Nat → Int64) (p1_vertices : Int32) (p1_edges : Int32) (a_p1_firsts : Nat → Int32) (a_p1_seconds : Nat → Int32) (a_p1_signs : Nat → Int32) : Option ((Nat → Int64) × (Nat → Int64) × (Nat → Int64)) :=
  bd (f_X7_addReturns (nI 1) a_t_reached a_t_arrived p1_vertices p1_edges a_p1_firsts a_p1_seconds a_p1_signs 19 a_t_closedSigned) (fun (q_7 : (Nat → Int64) × (Nat → Int64) × (Nat → Int64)) => some (q_7.2.2, q_7.1, q_7.2.1))
theorem yq_X7_countClosedSigned : yq yX7_countClosedSigned 1 := by unfold yq; decide +kernel
set_option maxHeartbeats 4000000 in
set_option maxRecDepth 100000 in
theorem c_X7_countClosedSigned (g : GG) (l : Launch) (h_t : Nat) (h_t_closed : Nat) (h_t_closedSigned : Nat) (h_t_primitive : Nat) (h_t_primitiveSigned : Nat) (h_t_reached : Nat) (h_t_arrived : Nat) (h_p1 : Nat) (h_p1_firsts : Nat) (h_p1_seconds : Nat) (h_p1_signs : Nat) (a_t_closedSigned : Nat → Int64) (a_t_reached : Nat → Int64) (a_t_arrived : Nat → Int64) (p1_vertices : Int32) (p1_edges : Int32) (a_p1_firsts : Nat → Int32) (a_p1_seconds : Nat → Int32) (a_p1_signs : Nat → Int32) {R : (Nat → Int64) × (Nat → Int64) × (Nat → Int64)} (hM : f_X7_countClosedSigned a_t_closedSigned a_t_reached a_t_arrived p1_vertices p1_edges a_p1_firsts a_p1_seconds a_p1_signs = some R) : CT g l yX7_countClosedSigned cX7_countClosedSigned 2 none 3 81 [.ref h_t, .ref h_p1] [ob h_t 7 [.ref h_t_closed, .ref h_t_closedSigned, .ref h_t_primitive, .ref h_t_primitiveSigned, .ref h_t_reached, .ref h_t_arrived], aJ g h_t_closedSigned 19 a_t_closedSigned, aJ g h_t_reached 18 a_t_reached, aJ g h_t_arrived 6 a_t_arrived, ob h_p1 2 [.int p1_vertices, .int p1_edges, .ref h_p1_firsts, .ref h_p1_seconds, .ref h_p1_signs], aI g h_p1_firsts 9 a_p1_firsts, aI g h_p1_seconds 9 a_p1_seconds, aI g h_p1_signs 9 a_p1_signs] [ob h_t 7 [.ref h_t_closed, .ref h_t_closedSigned, .ref h_t_primitive, .ref h_t_primitiveSigned, .ref h_t_reached, .ref h_t_arrived], aJ g h_t_closedSigned 19 R.1, aJ g h_t_reached 18 R.2.1, aJ g h_t_arrived 6 R.2.2, ob h_p1 2 [.int p1_vertices, .int p1_edges, .ref h_p1_firsts, .ref h_p1_seconds, .ref h_p1_signs], aI g h_p1_firsts 9 a_p1_firsts, aI g h_p1_seconds 9 a_p1_seconds, aI g h_p1_signs 9 a_p1_signs] none := by
  refine ct_v (by decide +kernel) (Nat.le_of_ble_eq_true rfl) ?_
  intro p e s m args below meth c Q A ls cx hP hD hA hl hfin
  obtain ⟨hx, hb, hml, hown, hts, hK⟩ := id cx
  have hl : lv_has ls 2 [(0, .ref h_t), (1, .ref h_p1)] := hl
  have hS : va_S A s.heap s.heap [] := va_S.rf
  refine lv_aload_n hx hb dX7_countClosedSigned_0 rfl (lv_at hl 0 rfl) ?_
  refine lv_aload_n hx hb dX7_countClosedSigned_1 rfl (lv_at hl 1 rfl) ?_
  refine lv_iconst (v := (nI 1)) hx hb dX7_countClosedSigned_2 (by decide) ?_
  refine lv_aload_n hx hb dX7_countClosedSigned_3 rfl (lv_at hl 0 rfl) ?_
  refine w_get cx hP 0 7 1 rfl rfl (by decide) m_137 rfl rfl dX7_countClosedSigned_4 ?_
  obtain ⟨q_7, hc_7, hM⟩ := bd_some hM
  refine w_callV cx hP hD hS hA (c_X7_addReturns g l h_t h_t_closed h_t_closedSigned h_t_primitive h_t_primitiveSigned h_t_reached h_t_arrived h_p1 h_p1_firsts h_p1_seconds h_p1_signs h_t_closedSigned (nI 1) a_t_reached a_t_arrived p1_vertices p1_edges a_p1_firsts a_p1_seconds a_p1_signs 19 a_t_closedSigned hc_7) [0, 2, 3, 4, 5, 6, 7, 1] rfl (by decide) rfl [ob h_t 7 [.ref h_t_closed, .ref h_t_closedSigned, .ref h_t_primitive, .ref h_t_primitiveSigned, .ref h_t_reached, .ref h_t_arrived], aJ g h_t_closedSigned 19 q_7.2.2, aJ g h_t_reached 18 q_7.1, aJ g h_t_arrived 6 q_7.2.1, ob h_p1 2 [.int p1_vertices, .int p1_edges, .ref h_p1_firsts, .ref h_p1_seconds, .ref h_p1_signs], aI g h_p1_firsts 9 a_p1_firsts, aI g h_p1_seconds 9 a_p1_seconds, aI g h_p1_signs 9 a_p1_signs] rfl 0 7 rfl rfl yq_X7_addReturns rfl m_371 m_373 m_6 m_22 m_374 ⟨Nat.le_of_ble_eq_true rfl, Nat.le_of_ble_eq_true rfl⟩ rfl rfl hl.1 (Nat.le_of_ble_eq_true rfl) dX7_countClosedSigned_7 ⟨Nat.le_refl 0, Nat.le_refl 0⟩ rfl (fun H locs hP hD hS => ?_)
  obtain rfl := Option.some.inj hM
  exact hfin 10 _ _ _ dX7_countClosedSigned_10 hP hD hS
noncomputable def b_X7_countPrimitive_27 (z_7 : Int32 × (Nat → Int64)) : Int32 × (Nat → Int64) → Option ((Int32 × (Nat → Int64)) ⊕ ((Nat → Int64))) := fun z_27 =>
  if z_7.1 ≤ z_27.1 then some (.inr z_27.2) else gd (nz z_27.1) (if (z_7.1 - z_7.1 / z_27.1 * z_27.1) = 0 then gd (inb z_7.1 19) (gd (inb z_27.1 19) (gd (inb z_7.1 19) (some (.inl (z_27.1 + (nI 1), vp_updL z_27.2 z_7.1.toNatClampNeg ((z_27.2 z_7.1.toNatClampNeg) - (z_27.2 z_27.1.toNatClampNeg))))))) else some (.inl (z_27.1 + (nI 1), z_27.2)))
noncomputable def b_X7_countPrimitive_7 (q_2 : (Nat → Int64) × (Nat → Int64) × (Nat → Int64)) : Int32 × (Nat → Int64) → Option ((Int32 × (Nat → Int64)) ⊕ ((Nat → Int64))) := fun z_7 =>
  if (nI 18) < z_7.1 then some (.inr z_7.2) else gd (inb z_7.1 19) (gd (inb z_7.1 19) (bd (wh (b_X7_countPrimitive_27 z_7) ((nI 1), vp_updL z_7.2 z_7.1.toNatClampNeg (q_2.1 z_7.1.toNatClampNeg))) (fun (r_27 : Nat → Int64) => some (.inl (z_7.1 + (nI 1), r_27)))))
noncomputable def f_X7_countPrimitive (a_t_closed : Nat → Int64) (a_t_primitive : Nat → Int64) (a_t_reached : Nat → Int64) (a_t_arrived : Nat → Int64) (p1_vertices : Int32) (p1_edges : Int32) (a_p1_firsts : Nat → Int32) (a_p1_seconds : Nat → Int32) (a_p1_signs : Nat → Int32) : Option ((Nat → Int64) × (Nat → Int64) × (Nat → Int64) × (Nat → Int64)) :=
  bd (f_X7_countClosed a_t_closed a_t_reached a_t_arrived p1_vertices p1_edges a_p1_firsts a_p1_seconds a_p1_signs) (fun (q_2 : (Nat → Int64) × (Nat → Int64) × (Nat → Int64)) => bd (wh (b_X7_countPrimitive_7 q_2) ((nI 1), a_t_primitive)) (fun (r_7 : Nat → Int64) => some (q_2.1, r_7, q_2.2.1, q_2.2.2)))
theorem yq_X7_countPrimitive : yq yX7_countPrimitive 1 := by unfold yq; decide +kernel
set_option maxHeartbeats 4000000 in
set_option maxRecDepth 100000 in
theorem c_X7_countPrimitive (g : GG) (l : Launch) (h_t : Nat) (h_t_closed : Nat) (h_t_closedSigned : Nat) (h_t_primitive : Nat) (h_t_primitiveSigned : Nat) (h_t_reached : Nat) (h_t_arrived : Nat) (h_p1 : Nat) (h_p1_firsts : Nat) (h_p1_seconds : Nat) (h_p1_signs : Nat) (a_t_closed : Nat → Int64) (a_t_primitive : Nat → Int64) (a_t_reached : Nat → Int64) (a_t_arrived : Nat → Int64) (p1_vertices : Int32) (p1_edges : Int32) (a_p1_firsts : Nat → Int32) (a_p1_seconds : Nat → Int32) (a_p1_signs : Nat → Int32) {R : (Nat → Int64) × (Nat → Int64) × (Nat → Int64) × (Nat → Int64)} (hM : f_X7_countPrimitive a_t_closed a_t_primitive a_t_reached a_t_arrived p1_vertices p1_edges a_p1_firsts a_p1_seconds a_p1_signs = some R) : CT g l yX7_countPrimitive cX7_countPrimitive 4 none 4 102 [.ref h_t, .ref h_p1] [ob h_t 7 [.ref h_t_closed, .ref h_t_closedSigned, .ref h_t_primitive, .ref h_t_primitiveSigned, .ref h_t_reached, .ref h_t_arrived], aJ g h_t_closed 19 a_t_closed, aJ g h_t_primitive 19 a_t_primitive, aJ g h_t_reached 18 a_t_reached, aJ g h_t_arrived 6 a_t_arrived, ob h_p1 2 [.int p1_vertices, .int p1_edges, .ref h_p1_firsts, .ref h_p1_seconds, .ref h_p1_signs], aI g h_p1_firsts 9 a_p1_firsts, aI g h_p1_seconds 9 a_p1_seconds, aI g h_p1_signs 9 a_p1_signs] [ob h_t 7 [.ref h_t_closed, .ref h_t_closedSigned, .ref h_t_primitive, .ref h_t_primitiveSigned, .ref h_t_reached, .ref h_t_arrived], aJ g h_t_closed 19 R.1, aJ g h_t_primitive 19 R.2.1, aJ g h_t_reached 18 R.2.2.1, aJ g h_t_arrived 6 R.2.2.2, ob h_p1 2 [.int p1_vertices, .int p1_edges, .ref h_p1_firsts, .ref h_p1_seconds, .ref h_p1_signs], aI g h_p1_firsts 9 a_p1_firsts, aI g h_p1_seconds 9 a_p1_seconds, aI g h_p1_signs 9 a_p1_signs] none := by
  refine ct_v (by decide +kernel) (Nat.le_of_ble_eq_true rfl) ?_
  intro p e s m args below meth c Q A ls cx hP hD hA hl hfin
  obtain ⟨hx, hb, hml, hown, hts, hK⟩ := id cx
  have hl : lv_has ls 4 [(0, .ref h_t), (1, .ref h_p1)] := hl
  have hS : va_S A s.heap s.heap [] := va_S.rf
  refine lv_aload_n hx hb dX7_countPrimitive_0 rfl (lv_at hl 0 rfl) ?_
  refine lv_aload_n hx hb dX7_countPrimitive_1 rfl (lv_at hl 1 rfl) ?_
  obtain ⟨q_2, hc_2, hM⟩ := bd_some hM
  refine w_callV cx hP hD hS hA (c_X7_countClosed g l h_t h_t_closed h_t_closedSigned h_t_primitive h_t_primitiveSigned h_t_reached h_t_arrived h_p1 h_p1_firsts h_p1_seconds h_p1_signs a_t_closed a_t_reached a_t_arrived p1_vertices p1_edges a_p1_firsts a_p1_seconds a_p1_signs hc_2) [0, 1, 3, 4, 5, 6, 7, 8] rfl (by decide) rfl [ob h_t 7 [.ref h_t_closed, .ref h_t_closedSigned, .ref h_t_primitive, .ref h_t_primitiveSigned, .ref h_t_reached, .ref h_t_arrived], aJ g h_t_closed 19 q_2.1, aJ g h_t_primitive 19 a_t_primitive, aJ g h_t_reached 18 q_2.2.1, aJ g h_t_arrived 6 q_2.2.2, ob h_p1 2 [.int p1_vertices, .int p1_edges, .ref h_p1_firsts, .ref h_p1_seconds, .ref h_p1_signs], aI g h_p1_firsts 9 a_p1_firsts, aI g h_p1_seconds 9 a_p1_seconds, aI g h_p1_signs 9 a_p1_signs] rfl 0 7 rfl rfl yq_X7_countClosed rfl m_458 m_393 m_394 m_22 m_395 ⟨Nat.le_of_ble_eq_true rfl, Nat.le_of_ble_eq_true rfl⟩ rfl rfl hl.1 (Nat.le_of_ble_eq_true rfl) dX7_countPrimitive_2 ⟨Nat.le_refl 0, Nat.le_refl 0⟩ rfl (fun H locs hP hD hS => ?_)
  refine lv_iconst (v := (nI 1)) hx hb dX7_countPrimitive_5 (by decide) ?_
  refine lv_istore_n (lv' := [(2, .int (nI 1)), (0, .ref h_t), (1, .ref h_p1)]) hx hb dX7_countPrimitive_6 rfl hl (by decide) rfl (fun ls hl => ?_)
  obtain ⟨r_7, hw, hM⟩ := bd_some hM
  obtain ⟨n, hn⟩ := wh_some hw
  clear hw
  have hE_7_0 : ∀ (H : Heap) (locs : List Loc) (ls : Array Slot), va_P (gD g) vwCl [ob h_t 7 [.ref h_t_closed, .ref h_t_closedSigned, .ref h_t_primitive, .ref h_t_primitiveSigned, .ref h_t_reached, .ref h_t_arrived], aJ g h_t_closed 19 q_2.1, aJ g h_t_primitive 19 r_7, aJ g h_t_reached 18 q_2.2.1, aJ g h_t_arrived 6 q_2.2.2, ob h_p1 2 [.int p1_vertices, .int p1_edges, .ref h_p1_firsts, .ref h_p1_seconds, .ref h_p1_signs], aI g h_p1_firsts 9 a_p1_firsts, aI g h_p1_seconds 9 a_p1_seconds, aI g h_p1_signs 9 a_p1_signs] H → va_D A [ob h_t 7 [.ref h_t_closed, .ref h_t_closedSigned, .ref h_t_primitive, .ref h_t_primitiveSigned, .ref h_t_reached, .ref h_t_arrived], aJ g h_t_closed 19 q_2.1, aJ g h_t_primitive 19 r_7, aJ g h_t_reached 18 q_2.2.1, aJ g h_t_arrived 6 q_2.2.2, ob h_p1 2 [.int p1_vertices, .int p1_edges, .ref h_p1_firsts, .ref h_p1_seconds, .ref h_p1_signs], aI g h_p1_firsts 9 a_p1_firsts, aI g h_p1_seconds 9 a_p1_seconds, aI g h_p1_signs 9 a_p1_signs] → va_S A s.heap H locs → lv_has ls 4 [] → W p l e (rmv 4 102) s m args below meth c H locs 0 0 Q (F0 m 65 ls []) := by
    intro H locs ls hP hD hS hl
    obtain rfl := Option.some.inj hM
    exact hfin 65 _ _ _ dX7_countPrimitive_65 hP hD hS
  clear hM
  have hL_7 : ∀ (n : Nat) (z_7 : Int32 × (Nat → Int64)), it (b_X7_countPrimitive_7 q_2) n z_7 = some r_7 → ∀ (H : Heap) (locs : List Loc) (ls : Array Slot), va_P (gD g) vwCl [ob h_t 7 [.ref h_t_closed, .ref h_t_closedSigned, .ref h_t_primitive, .ref h_t_primitiveSigned, .ref h_t_reached, .ref h_t_arrived], aJ g h_t_closed 19 q_2.1, aJ g h_t_primitive 19 z_7.2, aJ g h_t_reached 18 q_2.2.1, aJ g h_t_arrived 6 q_2.2.2, ob h_p1 2 [.int p1_vertices, .int p1_edges, .ref h_p1_firsts, .ref h_p1_seconds, .ref h_p1_signs], aI g h_p1_firsts 9 a_p1_firsts, aI g h_p1_seconds 9 a_p1_seconds, aI g h_p1_signs 9 a_p1_signs] H → va_D A [ob h_t 7 [.ref h_t_closed, .ref h_t_closedSigned, .ref h_t_primitive, .ref h_t_primitiveSigned, .ref h_t_reached, .ref h_t_arrived], aJ g h_t_closed 19 q_2.1, aJ g h_t_primitive 19 z_7.2, aJ g h_t_reached 18 q_2.2.1, aJ g h_t_arrived 6 q_2.2.2, ob h_p1 2 [.int p1_vertices, .int p1_edges, .ref h_p1_firsts, .ref h_p1_seconds, .ref h_p1_signs], aI g h_p1_firsts 9 a_p1_firsts, aI g h_p1_seconds 9 a_p1_seconds, aI g h_p1_signs 9 a_p1_signs] → va_S A s.heap H locs → lv_has ls 4 [(2, .int z_7.1), (0, .ref h_t)] → W p l e (rmv 4 102) s m args below meth c H locs 0 0 Q (F0 m 7 ls []) := by
    intro n
    induction n with
    | zero => intro z_7 hn; exact (it_zero hn).elim
    | succ n ih =>
      intro z_7 hn H locs ls hP hD hS hl
      obtain ⟨x, hM, hX⟩ := it_succ hn
      clear hn
      refine lv_iload_n hx hb dX7_countPrimitive_7 rfl (lv_at hl 0 rfl) ?_
      refine lv_bipush (v := (nI 18)) hx hb dX7_countPrimitive_8 (by decide) ?_
      refine lv_icmp_gt (tgt := 65) hx hb dX7_countPrimitive_10 (by decide) (fun c_10 => ?_) (fun c_10 => ?_)
      · have hM := if_t hM c_10
        obtain rfl := Option.some.inj hM
        obtain rfl : _ = r_7 := hX
        exact hE_7_0 _ _ _ hP hD hS (lv_sub hl [] rfl)
      · have hM := if_f hM c_10
        refine lv_aload_n hx hb dX7_countPrimitive_13 rfl (lv_at hl 1 rfl) ?_
        refine w_get cx hP 0 7 2 rfl rfl (by decide) m_139 rfl rfl dX7_countPrimitive_14 ?_
        refine lv_iload_n hx hb dX7_countPrimitive_17 rfl (lv_at hl 0 rfl) ?_
        refine lv_aload_n hx hb dX7_countPrimitive_18 rfl (lv_at hl 1 rfl) ?_
        refine w_get cx hP 0 7 0 rfl rfl (by decide) m_135 rfl rfl dX7_countPrimitive_19 ?_
        refine lv_iload_n hx hb dX7_countPrimitive_22 rfl (lv_at hl 0 rfl) ?_
        obtain ⟨g_23, hM⟩ := gd_some hM
        refine w_lald cx hP 1 rfl g_23 dX7_countPrimitive_23 ?_
        obtain ⟨g_24, hM⟩ := gd_some hM
        refine w_last cx hP hD hS 2 rfl g_24 dX7_countPrimitive_24 [ob h_t 7 [.ref h_t_closed, .ref h_t_closedSigned, .ref h_t_primitive, .ref h_t_primitiveSigned, .ref h_t_reached, .ref h_t_arrived], aJ g h_t_closed 19 q_2.1, aJ g h_t_primitive 19 (vp_updL z_7.2 z_7.1.toNatClampNeg (q_2.1 z_7.1.toNatClampNeg)), aJ g h_t_reached 18 q_2.2.1, aJ g h_t_arrived 6 q_2.2.2, ob h_p1 2 [.int p1_vertices, .int p1_edges, .ref h_p1_firsts, .ref h_p1_seconds, .ref h_p1_signs], aI g h_p1_firsts 9 a_p1_firsts, aI g h_p1_seconds 9 a_p1_seconds, aI g h_p1_signs 9 a_p1_signs] rfl (fun H locs hP hD hS => ?_)
        refine lv_iconst (v := (nI 1)) hx hb dX7_countPrimitive_25 (by decide) ?_
        refine lv_istore_n (lv' := [(3, .int (nI 1)), (2, .int z_7.1), (0, .ref h_t)]) hx hb dX7_countPrimitive_26 rfl hl (by decide) rfl (fun ls hl => ?_)
        obtain ⟨r_27, hw, hM⟩ := bd_some hM
        obtain ⟨n, hn⟩ := wh_some hw
        clear hw
        have hE_27_0 : ∀ (H : Heap) (locs : List Loc) (ls : Array Slot), va_P (gD g) vwCl [ob h_t 7 [.ref h_t_closed, .ref h_t_closedSigned, .ref h_t_primitive, .ref h_t_primitiveSigned, .ref h_t_reached, .ref h_t_arrived], aJ g h_t_closed 19 q_2.1, aJ g h_t_primitive 19 r_27, aJ g h_t_reached 18 q_2.2.1, aJ g h_t_arrived 6 q_2.2.2, ob h_p1 2 [.int p1_vertices, .int p1_edges, .ref h_p1_firsts, .ref h_p1_seconds, .ref h_p1_signs], aI g h_p1_firsts 9 a_p1_firsts, aI g h_p1_seconds 9 a_p1_seconds, aI g h_p1_signs 9 a_p1_signs] H → va_D A [ob h_t 7 [.ref h_t_closed, .ref h_t_closedSigned, .ref h_t_primitive, .ref h_t_primitiveSigned, .ref h_t_reached, .ref h_t_arrived], aJ g h_t_closed 19 q_2.1, aJ g h_t_primitive 19 r_27, aJ g h_t_reached 18 q_2.2.1, aJ g h_t_arrived 6 q_2.2.2, ob h_p1 2 [.int p1_vertices, .int p1_edges, .ref h_p1_firsts, .ref h_p1_seconds, .ref h_p1_signs], aI g h_p1_firsts 9 a_p1_firsts, aI g h_p1_seconds 9 a_p1_seconds, aI g h_p1_signs 9 a_p1_signs] → va_S A s.heap H locs → lv_has ls 4 [(2, .int z_7.1), (0, .ref h_t)] → W p l e (rmv 4 102) s m args below meth c H locs 0 0 Q (F0 m 59 ls []) := by
          intro H locs ls hP hD hS hl
          refine lv_iinc (v := z_7.1 + (nI 1)) (lv' := [(2, .int (z_7.1 + (nI 1))), (0, .ref h_t)]) hx hb dX7_countPrimitive_59 hl (k := 0) rfl (congrArg (fun q => z_7.1 + q) (show Int32.ofInt (1) = (nI 1) by decide)) (by decide) rfl (fun ls hl => ?_)
          refine lv_goto (tgt := 7) hx hb dX7_countPrimitive_62 (by decide) ?_
          obtain rfl := Option.some.inj hM
          exact ih _ hX _ _ _ hP hD hS (lv_sub hl [0, 1] rfl)
        clear hM
        have hL_27 : ∀ (n : Nat) (z_27 : Int32 × (Nat → Int64)), it (b_X7_countPrimitive_27 z_7) n z_27 = some r_27 → ∀ (H : Heap) (locs : List Loc) (ls : Array Slot), va_P (gD g) vwCl [ob h_t 7 [.ref h_t_closed, .ref h_t_closedSigned, .ref h_t_primitive, .ref h_t_primitiveSigned, .ref h_t_reached, .ref h_t_arrived], aJ g h_t_closed 19 q_2.1, aJ g h_t_primitive 19 z_27.2, aJ g h_t_reached 18 q_2.2.1, aJ g h_t_arrived 6 q_2.2.2, ob h_p1 2 [.int p1_vertices, .int p1_edges, .ref h_p1_firsts, .ref h_p1_seconds, .ref h_p1_signs], aI g h_p1_firsts 9 a_p1_firsts, aI g h_p1_seconds 9 a_p1_seconds, aI g h_p1_signs 9 a_p1_signs] H → va_D A [ob h_t 7 [.ref h_t_closed, .ref h_t_closedSigned, .ref h_t_primitive, .ref h_t_primitiveSigned, .ref h_t_reached, .ref h_t_arrived], aJ g h_t_closed 19 q_2.1, aJ g h_t_primitive 19 z_27.2, aJ g h_t_reached 18 q_2.2.1, aJ g h_t_arrived 6 q_2.2.2, ob h_p1 2 [.int p1_vertices, .int p1_edges, .ref h_p1_firsts, .ref h_p1_seconds, .ref h_p1_signs], aI g h_p1_firsts 9 a_p1_firsts, aI g h_p1_seconds 9 a_p1_seconds, aI g h_p1_signs 9 a_p1_signs] → va_S A s.heap H locs → lv_has ls 4 [(3, .int z_27.1), (2, .int z_7.1), (0, .ref h_t)] → W p l e (rmv 4 102) s m args below meth c H locs 0 0 Q (F0 m 27 ls []) := by
          intro n
          induction n with
          | zero => intro z_27 hn; exact (it_zero hn).elim
          | succ n ih =>
            intro z_27 hn H locs ls hP hD hS hl
            obtain ⟨x, hM, hX⟩ := it_succ hn
            clear hn
            refine lv_iload_n hx hb dX7_countPrimitive_27 rfl (lv_at hl 0 rfl) ?_
            refine lv_iload_n hx hb dX7_countPrimitive_28 rfl (lv_at hl 1 rfl) ?_
            refine lv_icmp_ge (tgt := 59) hx hb dX7_countPrimitive_29 (by decide) (fun c_29 => ?_) (fun c_29 => ?_)
            · have hM := if_t hM c_29
              obtain rfl := Option.some.inj hM
              obtain rfl : _ = r_27 := hX
              exact hE_27_0 _ _ _ hP hD hS (lv_sub hl [1, 2] rfl)
            · have hM := if_f hM c_29
              refine lv_iload_n hx hb dX7_countPrimitive_32 rfl (lv_at hl 1 rfl) ?_
              refine lv_iload_n hx hb dX7_countPrimitive_33 rfl (lv_at hl 0 rfl) ?_
              obtain ⟨g_34, hM⟩ := gd_some hM
              refine lv_irem hx hb dX7_countPrimitive_34 (nz_ne g_34) ?_
              refine lv_if_ne (tgt := 53) hx hb dX7_countPrimitive_35 (by decide) (fun c_35 => ?_) (fun c_35 => ?_)
              · have hM := if_f hM c_35
                refine lv_iinc (v := z_27.1 + (nI 1)) (lv' := [(3, .int (z_27.1 + (nI 1))), (2, .int z_7.1), (0, .ref h_t)]) hx hb dX7_countPrimitive_53 hl (k := 0) rfl (congrArg (fun q => z_27.1 + q) (show Int32.ofInt (1) = (nI 1) by decide)) (by decide) rfl (fun ls hl => ?_)
                refine lv_goto (tgt := 27) hx hb dX7_countPrimitive_56 (by decide) ?_
                obtain rfl := Option.some.inj hM
                exact ih _ hX _ _ _ hP hD hS (lv_sub hl [0, 1, 2] rfl)
              · have hM := if_t hM c_35
                refine lv_aload_n hx hb dX7_countPrimitive_38 rfl (lv_at hl 2 rfl) ?_
                refine w_get cx hP 0 7 2 rfl rfl (by decide) m_139 rfl rfl dX7_countPrimitive_39 ?_
                refine lv_iload_n hx hb dX7_countPrimitive_42 rfl (lv_at hl 1 rfl) ?_
                refine lv_dup2_11 hx hb dX7_countPrimitive_43 rfl rfl ?_
                obtain ⟨g_44, hM⟩ := gd_some hM
                refine w_lald cx hP 2 rfl g_44 dX7_countPrimitive_44 ?_
                refine lv_aload_n hx hb dX7_countPrimitive_45 rfl (lv_at hl 2 rfl) ?_
                refine w_get cx hP 0 7 2 rfl rfl (by decide) m_139 rfl rfl dX7_countPrimitive_46 ?_
                refine lv_iload_n hx hb dX7_countPrimitive_49 rfl (lv_at hl 0 rfl) ?_
                obtain ⟨g_50, hM⟩ := gd_some hM
                refine w_lald cx hP 2 rfl g_50 dX7_countPrimitive_50 ?_
                refine lv_lsub hx hb dX7_countPrimitive_51 ?_
                obtain ⟨g_52, hM⟩ := gd_some hM
                refine w_last cx hP hD hS 2 rfl g_52 dX7_countPrimitive_52 [ob h_t 7 [.ref h_t_closed, .ref h_t_closedSigned, .ref h_t_primitive, .ref h_t_primitiveSigned, .ref h_t_reached, .ref h_t_arrived], aJ g h_t_closed 19 q_2.1, aJ g h_t_primitive 19 (vp_updL z_27.2 z_7.1.toNatClampNeg ((z_27.2 z_7.1.toNatClampNeg) - (z_27.2 z_27.1.toNatClampNeg))), aJ g h_t_reached 18 q_2.2.1, aJ g h_t_arrived 6 q_2.2.2, ob h_p1 2 [.int p1_vertices, .int p1_edges, .ref h_p1_firsts, .ref h_p1_seconds, .ref h_p1_signs], aI g h_p1_firsts 9 a_p1_firsts, aI g h_p1_seconds 9 a_p1_seconds, aI g h_p1_signs 9 a_p1_signs] rfl (fun H locs hP hD hS => ?_)
                refine lv_iinc (v := z_27.1 + (nI 1)) (lv' := [(3, .int (z_27.1 + (nI 1))), (2, .int z_7.1), (0, .ref h_t)]) hx hb dX7_countPrimitive_53 hl (k := 0) rfl (congrArg (fun q => z_27.1 + q) (show Int32.ofInt (1) = (nI 1) by decide)) (by decide) rfl (fun ls hl => ?_)
                refine lv_goto (tgt := 27) hx hb dX7_countPrimitive_56 (by decide) ?_
                obtain rfl := Option.some.inj hM
                exact ih _ hX _ _ _ hP hD hS (lv_sub hl [0, 1, 2] rfl)
        exact hL_27 n _ hn _ _ _ hP hD hS (lv_sub hl [0, 1, 2] rfl)
  exact hL_7 n _ hn _ _ _ hP hD hS (lv_sub hl [0, 1] rfl)
noncomputable def b_X7_countPrimitiveSigned_32 (q_2 : (Nat → Int64) × (Nat → Int64) × (Nat → Int64) × (Nat → Int64)) (z_12 : Int32 × (Nat → Int64)) : Int32 × (Nat → Int64) → Option ((Int32 × (Nat → Int64)) ⊕ ((Nat → Int64))) := fun z_32 =>
  if z_12.1 ≤ z_32.1 then some (.inr z_32.2) else gd (nz z_32.1) (if (z_12.1 - z_12.1 / z_32.1 * z_32.1) = 0 then gd (nz z_32.1) (bd (if ((z_12.1 / z_32.1) - (z_12.1 / z_32.1) / (nI 2) * (nI 2)) = 0 then some (nI 1) else some (nI 0)) (fun (j_48 : Int32) => gd (inb z_12.1 19) (bd (if j_48 = 0 then gd (inb z_32.1 19) (some (z_32.2 z_32.1.toNatClampNeg)) else gd (inb z_32.1 19) (some (q_2.2.1 z_32.1.toNatClampNeg))) (fun (j_67 : Int64) => gd (inb z_12.1 19) (some (.inl (z_32.1 + (nI 1), vp_updL z_32.2 z_12.1.toNatClampNeg ((z_32.2 z_12.1.toNatClampNeg) - j_67)))))))) else some (.inl (z_32.1 + (nI 1), z_32.2)))
noncomputable def b_X7_countPrimitiveSigned_12 (q_2 : (Nat → Int64) × (Nat → Int64) × (Nat → Int64) × (Nat → Int64)) (q_7 : (Nat → Int64) × (Nat → Int64) × (Nat → Int64)) : Int32 × (Nat → Int64) → Option ((Int32 × (Nat → Int64)) ⊕ ((Nat → Int64))) := fun z_12 =>
  if (nI 18) < z_12.1 then some (.inr z_12.2) else gd (inb z_12.1 19) (gd (inb z_12.1 19) (bd (wh (b_X7_countPrimitiveSigned_32 q_2 z_12) ((nI 1), vp_updL z_12.2 z_12.1.toNatClampNeg (q_7.1 z_12.1.toNatClampNeg))) (fun (r_32 : Nat → Int64) => some (.inl (z_12.1 + (nI 1), r_32)))))
noncomputable def f_X7_countPrimitiveSigned (a_t_closed : Nat → Int64) (a_t_closedSigned : Nat → Int64) (a_t_primitive : Nat → Int64) (a_t_primitiveSigned : Nat → Int64) (a_t_reached : Nat → Int64) (a_t_arrived : Nat → Int64) (p1_vertices : Int32) (p1_edges : Int32) (a_p1_firsts : Nat → Int32) (a_p1_seconds : Nat → Int32) (a_p1_signs : Nat → Int32) : Option ((Nat → Int64) × (Nat → Int64) × (Nat → Int64) × (Nat → Int64) × (Nat → Int64) × (Nat → Int64)) :=
  bd (f_X7_countPrimitive a_t_closed a_t_primitive a_t_reached a_t_arrived p1_vertices p1_edges a_p1_firsts a_p1_seconds a_p1_signs) (fun (q_2 : (Nat → Int64) × (Nat → Int64) × (Nat → Int64) × (Nat → Int64)) => bd (f_X7_countClosedSigned a_t_closedSigned q_2.2.2.1 q_2.2.2.2 p1_vertices p1_edges a_p1_firsts a_p1_seconds a_p1_signs) (fun (q_7 : (Nat → Int64) × (Nat → Int64) × (Nat → Int64)) => bd (wh (b_X7_countPrimitiveSigned_12 q_2 q_7) ((nI 1), a_t_primitiveSigned)) (fun (r_12 : Nat → Int64) => some (q_2.1, q_7.1, q_2.2.1, r_12, q_7.2.1, q_7.2.2))))
theorem yq_X7_countPrimitiveSigned : yq yX7_countPrimitiveSigned 1 := by unfold yq; decide +kernel
set_option maxHeartbeats 4000000 in
set_option maxRecDepth 100000 in
theorem c_X7_countPrimitiveSigned (g : GG) (l : Launch) (h_t : Nat) (h_t_closed : Nat) (h_t_closedSigned : Nat) (h_t_primitive : Nat) (h_t_primitiveSigned : Nat) (h_t_reached : Nat) (h_t_arrived : Nat) (h_p1 : Nat) (h_p1_firsts : Nat) (h_p1_seconds : Nat) (h_p1_signs : Nat) (a_t_closed : Nat → Int64) (a_t_closedSigned : Nat → Int64) (a_t_primitive : Nat → Int64) (a_t_primitiveSigned : Nat → Int64) (a_t_reached : Nat → Int64) (a_t_arrived : Nat → Int64) (p1_vertices : Int32) (p1_edges : Int32) (a_p1_firsts : Nat → Int32) (a_p1_seconds : Nat → Int32) (a_p1_signs : Nat → Int32) {R : (Nat → Int64) × (Nat → Int64) × (Nat → Int64) × (Nat → Int64) × (Nat → Int64) × (Nat → Int64)} (hM : f_X7_countPrimitiveSigned a_t_closed a_t_closedSigned a_t_primitive a_t_primitiveSigned a_t_reached a_t_arrived p1_vertices p1_edges a_p1_firsts a_p1_seconds a_p1_signs = some R) : CT g l yX7_countPrimitiveSigned cX7_countPrimitiveSigned 5 none 5 125 [.ref h_t, .ref h_p1] [ob h_t 7 [.ref h_t_closed, .ref h_t_closedSigned, .ref h_t_primitive, .ref h_t_primitiveSigned, .ref h_t_reached, .ref h_t_arrived], aJ g h_t_closed 19 a_t_closed, aJ g h_t_closedSigned 19 a_t_closedSigned, aJ g h_t_primitive 19 a_t_primitive, aJ g h_t_primitiveSigned 19 a_t_primitiveSigned, aJ g h_t_reached 18 a_t_reached, aJ g h_t_arrived 6 a_t_arrived, ob h_p1 2 [.int p1_vertices, .int p1_edges, .ref h_p1_firsts, .ref h_p1_seconds, .ref h_p1_signs], aI g h_p1_firsts 9 a_p1_firsts, aI g h_p1_seconds 9 a_p1_seconds, aI g h_p1_signs 9 a_p1_signs] [ob h_t 7 [.ref h_t_closed, .ref h_t_closedSigned, .ref h_t_primitive, .ref h_t_primitiveSigned, .ref h_t_reached, .ref h_t_arrived], aJ g h_t_closed 19 R.1, aJ g h_t_closedSigned 19 R.2.1, aJ g h_t_primitive 19 R.2.2.1, aJ g h_t_primitiveSigned 19 R.2.2.2.1, aJ g h_t_reached 18 R.2.2.2.2.1, aJ g h_t_arrived 6 R.2.2.2.2.2, ob h_p1 2 [.int p1_vertices, .int p1_edges, .ref h_p1_firsts, .ref h_p1_seconds, .ref h_p1_signs], aI g h_p1_firsts 9 a_p1_firsts, aI g h_p1_seconds 9 a_p1_seconds, aI g h_p1_signs 9 a_p1_signs] none := by
  refine ct_v (by decide +kernel) (Nat.le_of_ble_eq_true rfl) ?_
  intro p e s m args below meth c Q A ls cx hP hD hA hl hfin
  obtain ⟨hx, hb, hml, hown, hts, hK⟩ := id cx
  have hl : lv_has ls 5 [(0, .ref h_t), (1, .ref h_p1)] := hl
  have hS : va_S A s.heap s.heap [] := va_S.rf
  refine lv_aload_n hx hb dX7_countPrimitiveSigned_0 rfl (lv_at hl 0 rfl) ?_
  refine lv_aload_n hx hb dX7_countPrimitiveSigned_1 rfl (lv_at hl 1 rfl) ?_
  obtain ⟨q_2, hc_2, hM⟩ := bd_some hM
  refine w_callV cx hP hD hS hA (c_X7_countPrimitive g l h_t h_t_closed h_t_closedSigned h_t_primitive h_t_primitiveSigned h_t_reached h_t_arrived h_p1 h_p1_firsts h_p1_seconds h_p1_signs a_t_closed a_t_primitive a_t_reached a_t_arrived p1_vertices p1_edges a_p1_firsts a_p1_seconds a_p1_signs hc_2) [0, 1, 3, 5, 6, 7, 8, 9, 10] rfl (by decide) rfl [ob h_t 7 [.ref h_t_closed, .ref h_t_closedSigned, .ref h_t_primitive, .ref h_t_primitiveSigned, .ref h_t_reached, .ref h_t_arrived], aJ g h_t_closed 19 q_2.1, aJ g h_t_closedSigned 19 a_t_closedSigned, aJ g h_t_primitive 19 q_2.2.1, aJ g h_t_primitiveSigned 19 a_t_primitiveSigned, aJ g h_t_reached 18 q_2.2.2.1, aJ g h_t_arrived 6 q_2.2.2.2, ob h_p1 2 [.int p1_vertices, .int p1_edges, .ref h_p1_firsts, .ref h_p1_seconds, .ref h_p1_signs], aI g h_p1_firsts 9 a_p1_firsts, aI g h_p1_seconds 9 a_p1_seconds, aI g h_p1_signs 9 a_p1_signs] rfl 0 7 rfl rfl yq_X7_countPrimitive rfl m_467 m_455 m_456 m_22 m_457 ⟨Nat.le_of_ble_eq_true rfl, Nat.le_of_ble_eq_true rfl⟩ rfl rfl hl.1 (Nat.le_of_ble_eq_true rfl) dX7_countPrimitiveSigned_2 ⟨Nat.le_refl 0, Nat.le_refl 0⟩ rfl (fun H locs hP hD hS => ?_)
  refine lv_aload_n hx hb dX7_countPrimitiveSigned_5 rfl (lv_at hl 0 rfl) ?_
  refine lv_aload_n hx hb dX7_countPrimitiveSigned_6 rfl (lv_at hl 1 rfl) ?_
  obtain ⟨q_7, hc_7, hM⟩ := bd_some hM
  refine w_callV cx hP hD hS hA (c_X7_countClosedSigned g l h_t h_t_closed h_t_closedSigned h_t_primitive h_t_primitiveSigned h_t_reached h_t_arrived h_p1 h_p1_firsts h_p1_seconds h_p1_signs a_t_closedSigned q_2.2.2.1 q_2.2.2.2 p1_vertices p1_edges a_p1_firsts a_p1_seconds a_p1_signs hc_7) [0, 2, 5, 6, 7, 8, 9, 10] rfl (by decide) rfl [ob h_t 7 [.ref h_t_closed, .ref h_t_closedSigned, .ref h_t_primitive, .ref h_t_primitiveSigned, .ref h_t_reached, .ref h_t_arrived], aJ g h_t_closed 19 q_2.1, aJ g h_t_closedSigned 19 q_7.1, aJ g h_t_primitive 19 q_2.2.1, aJ g h_t_primitiveSigned 19 a_t_primitiveSigned, aJ g h_t_reached 18 q_7.2.1, aJ g h_t_arrived 6 q_7.2.2, ob h_p1 2 [.int p1_vertices, .int p1_edges, .ref h_p1_firsts, .ref h_p1_seconds, .ref h_p1_signs], aI g h_p1_firsts 9 a_p1_firsts, aI g h_p1_seconds 9 a_p1_seconds, aI g h_p1_signs 9 a_p1_signs] rfl 0 7 rfl rfl yq_X7_countClosedSigned rfl m_468 m_368 m_369 m_22 m_370 ⟨Nat.le_of_ble_eq_true rfl, Nat.le_of_ble_eq_true rfl⟩ rfl rfl hl.1 (Nat.le_of_ble_eq_true rfl) dX7_countPrimitiveSigned_7 ⟨Nat.le_refl 0, Nat.le_refl 0⟩ rfl (fun H locs hP hD hS => ?_)
  refine lv_iconst (v := (nI 1)) hx hb dX7_countPrimitiveSigned_10 (by decide) ?_
  refine lv_istore_n (lv' := [(2, .int (nI 1)), (0, .ref h_t), (1, .ref h_p1)]) hx hb dX7_countPrimitiveSigned_11 rfl hl (by decide) rfl (fun ls hl => ?_)
  obtain ⟨r_12, hw, hM⟩ := bd_some hM
  obtain ⟨n, hn⟩ := wh_some hw
  clear hw
  have hE_12_0 : ∀ (H : Heap) (locs : List Loc) (ls : Array Slot), va_P (gD g) vwCl [ob h_t 7 [.ref h_t_closed, .ref h_t_closedSigned, .ref h_t_primitive, .ref h_t_primitiveSigned, .ref h_t_reached, .ref h_t_arrived], aJ g h_t_closed 19 q_2.1, aJ g h_t_closedSigned 19 q_7.1, aJ g h_t_primitive 19 q_2.2.1, aJ g h_t_primitiveSigned 19 r_12, aJ g h_t_reached 18 q_7.2.1, aJ g h_t_arrived 6 q_7.2.2, ob h_p1 2 [.int p1_vertices, .int p1_edges, .ref h_p1_firsts, .ref h_p1_seconds, .ref h_p1_signs], aI g h_p1_firsts 9 a_p1_firsts, aI g h_p1_seconds 9 a_p1_seconds, aI g h_p1_signs 9 a_p1_signs] H → va_D A [ob h_t 7 [.ref h_t_closed, .ref h_t_closedSigned, .ref h_t_primitive, .ref h_t_primitiveSigned, .ref h_t_reached, .ref h_t_arrived], aJ g h_t_closed 19 q_2.1, aJ g h_t_closedSigned 19 q_7.1, aJ g h_t_primitive 19 q_2.2.1, aJ g h_t_primitiveSigned 19 r_12, aJ g h_t_reached 18 q_7.2.1, aJ g h_t_arrived 6 q_7.2.2, ob h_p1 2 [.int p1_vertices, .int p1_edges, .ref h_p1_firsts, .ref h_p1_seconds, .ref h_p1_signs], aI g h_p1_firsts 9 a_p1_firsts, aI g h_p1_seconds 9 a_p1_seconds, aI g h_p1_signs 9 a_p1_signs] → va_S A s.heap H locs → lv_has ls 5 [] → W p l e (rmv 5 125) s m args below meth c H locs 0 0 Q (F0 m 99 ls []) := by
    intro H locs ls hP hD hS hl
    obtain rfl := Option.some.inj hM
    exact hfin 99 _ _ _ dX7_countPrimitiveSigned_99 hP hD hS
  clear hM
  have hL_12 : ∀ (n : Nat) (z_12 : Int32 × (Nat → Int64)), it (b_X7_countPrimitiveSigned_12 q_2 q_7) n z_12 = some r_12 → ∀ (H : Heap) (locs : List Loc) (ls : Array Slot), va_P (gD g) vwCl [ob h_t 7 [.ref h_t_closed, .ref h_t_closedSigned, .ref h_t_primitive, .ref h_t_primitiveSigned, .ref h_t_reached, .ref h_t_arrived], aJ g h_t_closed 19 q_2.1, aJ g h_t_closedSigned 19 q_7.1, aJ g h_t_primitive 19 q_2.2.1, aJ g h_t_primitiveSigned 19 z_12.2, aJ g h_t_reached 18 q_7.2.1, aJ g h_t_arrived 6 q_7.2.2, ob h_p1 2 [.int p1_vertices, .int p1_edges, .ref h_p1_firsts, .ref h_p1_seconds, .ref h_p1_signs], aI g h_p1_firsts 9 a_p1_firsts, aI g h_p1_seconds 9 a_p1_seconds, aI g h_p1_signs 9 a_p1_signs] H → va_D A [ob h_t 7 [.ref h_t_closed, .ref h_t_closedSigned, .ref h_t_primitive, .ref h_t_primitiveSigned, .ref h_t_reached, .ref h_t_arrived], aJ g h_t_closed 19 q_2.1, aJ g h_t_closedSigned 19 q_7.1, aJ g h_t_primitive 19 q_2.2.1, aJ g h_t_primitiveSigned 19 z_12.2, aJ g h_t_reached 18 q_7.2.1, aJ g h_t_arrived 6 q_7.2.2, ob h_p1 2 [.int p1_vertices, .int p1_edges, .ref h_p1_firsts, .ref h_p1_seconds, .ref h_p1_signs], aI g h_p1_firsts 9 a_p1_firsts, aI g h_p1_seconds 9 a_p1_seconds, aI g h_p1_signs 9 a_p1_signs] → va_S A s.heap H locs → lv_has ls 5 [(2, .int z_12.1), (0, .ref h_t)] → W p l e (rmv 5 125) s m args below meth c H locs 0 0 Q (F0 m 12 ls []) := by
    intro n
    induction n with
    | zero => intro z_12 hn; exact (it_zero hn).elim
    | succ n ih =>
      intro z_12 hn H locs ls hP hD hS hl
      obtain ⟨x, hM, hX⟩ := it_succ hn
      clear hn
      refine lv_iload_n hx hb dX7_countPrimitiveSigned_12 rfl (lv_at hl 0 rfl) ?_
      refine lv_bipush (v := (nI 18)) hx hb dX7_countPrimitiveSigned_13 (by decide) ?_
      refine lv_icmp_gt (tgt := 99) hx hb dX7_countPrimitiveSigned_15 (by decide) (fun c_15 => ?_) (fun c_15 => ?_)
      · have hM := if_t hM c_15
        obtain rfl := Option.some.inj hM
        obtain rfl : _ = r_12 := hX
        exact hE_12_0 _ _ _ hP hD hS (lv_sub hl [] rfl)
      · have hM := if_f hM c_15
        refine lv_aload_n hx hb dX7_countPrimitiveSigned_18 rfl (lv_at hl 1 rfl) ?_
        refine w_get cx hP 0 7 3 rfl rfl (by decide) m_141 rfl rfl dX7_countPrimitiveSigned_19 ?_
        refine lv_iload_n hx hb dX7_countPrimitiveSigned_22 rfl (lv_at hl 0 rfl) ?_
        refine lv_aload_n hx hb dX7_countPrimitiveSigned_23 rfl (lv_at hl 1 rfl) ?_
        refine w_get cx hP 0 7 1 rfl rfl (by decide) m_137 rfl rfl dX7_countPrimitiveSigned_24 ?_
        refine lv_iload_n hx hb dX7_countPrimitiveSigned_27 rfl (lv_at hl 0 rfl) ?_
        obtain ⟨g_28, hM⟩ := gd_some hM
        refine w_lald cx hP 2 rfl g_28 dX7_countPrimitiveSigned_28 ?_
        obtain ⟨g_29, hM⟩ := gd_some hM
        refine w_last cx hP hD hS 4 rfl g_29 dX7_countPrimitiveSigned_29 [ob h_t 7 [.ref h_t_closed, .ref h_t_closedSigned, .ref h_t_primitive, .ref h_t_primitiveSigned, .ref h_t_reached, .ref h_t_arrived], aJ g h_t_closed 19 q_2.1, aJ g h_t_closedSigned 19 q_7.1, aJ g h_t_primitive 19 q_2.2.1, aJ g h_t_primitiveSigned 19 (vp_updL z_12.2 z_12.1.toNatClampNeg (q_7.1 z_12.1.toNatClampNeg)), aJ g h_t_reached 18 q_7.2.1, aJ g h_t_arrived 6 q_7.2.2, ob h_p1 2 [.int p1_vertices, .int p1_edges, .ref h_p1_firsts, .ref h_p1_seconds, .ref h_p1_signs], aI g h_p1_firsts 9 a_p1_firsts, aI g h_p1_seconds 9 a_p1_seconds, aI g h_p1_signs 9 a_p1_signs] rfl (fun H locs hP hD hS => ?_)
        refine lv_iconst (v := (nI 1)) hx hb dX7_countPrimitiveSigned_30 (by decide) ?_
        refine lv_istore_n (lv' := [(3, .int (nI 1)), (2, .int z_12.1), (0, .ref h_t)]) hx hb dX7_countPrimitiveSigned_31 rfl hl (by decide) rfl (fun ls hl => ?_)
        obtain ⟨r_32, hw, hM⟩ := bd_some hM
        obtain ⟨n, hn⟩ := wh_some hw
        clear hw
        have hE_32_0 : ∀ (H : Heap) (locs : List Loc) (ls : Array Slot), va_P (gD g) vwCl [ob h_t 7 [.ref h_t_closed, .ref h_t_closedSigned, .ref h_t_primitive, .ref h_t_primitiveSigned, .ref h_t_reached, .ref h_t_arrived], aJ g h_t_closed 19 q_2.1, aJ g h_t_closedSigned 19 q_7.1, aJ g h_t_primitive 19 q_2.2.1, aJ g h_t_primitiveSigned 19 r_32, aJ g h_t_reached 18 q_7.2.1, aJ g h_t_arrived 6 q_7.2.2, ob h_p1 2 [.int p1_vertices, .int p1_edges, .ref h_p1_firsts, .ref h_p1_seconds, .ref h_p1_signs], aI g h_p1_firsts 9 a_p1_firsts, aI g h_p1_seconds 9 a_p1_seconds, aI g h_p1_signs 9 a_p1_signs] H → va_D A [ob h_t 7 [.ref h_t_closed, .ref h_t_closedSigned, .ref h_t_primitive, .ref h_t_primitiveSigned, .ref h_t_reached, .ref h_t_arrived], aJ g h_t_closed 19 q_2.1, aJ g h_t_closedSigned 19 q_7.1, aJ g h_t_primitive 19 q_2.2.1, aJ g h_t_primitiveSigned 19 r_32, aJ g h_t_reached 18 q_7.2.1, aJ g h_t_arrived 6 q_7.2.2, ob h_p1 2 [.int p1_vertices, .int p1_edges, .ref h_p1_firsts, .ref h_p1_seconds, .ref h_p1_signs], aI g h_p1_firsts 9 a_p1_firsts, aI g h_p1_seconds 9 a_p1_seconds, aI g h_p1_signs 9 a_p1_signs] → va_S A s.heap H locs → lv_has ls 5 [(2, .int z_12.1), (0, .ref h_t)] → W p l e (rmv 5 125) s m args below meth c H locs 0 0 Q (F0 m 93 ls []) := by
          intro H locs ls hP hD hS hl
          refine lv_iinc (v := z_12.1 + (nI 1)) (lv' := [(2, .int (z_12.1 + (nI 1))), (0, .ref h_t)]) hx hb dX7_countPrimitiveSigned_93 hl (k := 0) rfl (congrArg (fun q => z_12.1 + q) (show Int32.ofInt (1) = (nI 1) by decide)) (by decide) rfl (fun ls hl => ?_)
          refine lv_goto (tgt := 12) hx hb dX7_countPrimitiveSigned_96 (by decide) ?_
          obtain rfl := Option.some.inj hM
          exact ih _ hX _ _ _ hP hD hS (lv_sub hl [0, 1] rfl)
        clear hM
        have hL_32 : ∀ (n : Nat) (z_32 : Int32 × (Nat → Int64)), it (b_X7_countPrimitiveSigned_32 q_2 z_12) n z_32 = some r_32 → ∀ (H : Heap) (locs : List Loc) (ls : Array Slot), va_P (gD g) vwCl [ob h_t 7 [.ref h_t_closed, .ref h_t_closedSigned, .ref h_t_primitive, .ref h_t_primitiveSigned, .ref h_t_reached, .ref h_t_arrived], aJ g h_t_closed 19 q_2.1, aJ g h_t_closedSigned 19 q_7.1, aJ g h_t_primitive 19 q_2.2.1, aJ g h_t_primitiveSigned 19 z_32.2, aJ g h_t_reached 18 q_7.2.1, aJ g h_t_arrived 6 q_7.2.2, ob h_p1 2 [.int p1_vertices, .int p1_edges, .ref h_p1_firsts, .ref h_p1_seconds, .ref h_p1_signs], aI g h_p1_firsts 9 a_p1_firsts, aI g h_p1_seconds 9 a_p1_seconds, aI g h_p1_signs 9 a_p1_signs] H → va_D A [ob h_t 7 [.ref h_t_closed, .ref h_t_closedSigned, .ref h_t_primitive, .ref h_t_primitiveSigned, .ref h_t_reached, .ref h_t_arrived], aJ g h_t_closed 19 q_2.1, aJ g h_t_closedSigned 19 q_7.1, aJ g h_t_primitive 19 q_2.2.1, aJ g h_t_primitiveSigned 19 z_32.2, aJ g h_t_reached 18 q_7.2.1, aJ g h_t_arrived 6 q_7.2.2, ob h_p1 2 [.int p1_vertices, .int p1_edges, .ref h_p1_firsts, .ref h_p1_seconds, .ref h_p1_signs], aI g h_p1_firsts 9 a_p1_firsts, aI g h_p1_seconds 9 a_p1_seconds, aI g h_p1_signs 9 a_p1_signs] → va_S A s.heap H locs → lv_has ls 5 [(3, .int z_32.1), (2, .int z_12.1), (0, .ref h_t)] → W p l e (rmv 5 125) s m args below meth c H locs 0 0 Q (F0 m 32 ls []) := by
          intro n
          induction n with
          | zero => intro z_32 hn; exact (it_zero hn).elim
          | succ n ih =>
            intro z_32 hn H locs ls hP hD hS hl
            obtain ⟨x, hM, hX⟩ := it_succ hn
            clear hn
            refine lv_iload_n hx hb dX7_countPrimitiveSigned_32 rfl (lv_at hl 0 rfl) ?_
            refine lv_iload_n hx hb dX7_countPrimitiveSigned_33 rfl (lv_at hl 1 rfl) ?_
            refine lv_icmp_ge (tgt := 93) hx hb dX7_countPrimitiveSigned_34 (by decide) (fun c_34 => ?_) (fun c_34 => ?_)
            · have hM := if_t hM c_34
              obtain rfl := Option.some.inj hM
              obtain rfl : _ = r_32 := hX
              exact hE_32_0 _ _ _ hP hD hS (lv_sub hl [1, 2] rfl)
            · have hM := if_f hM c_34
              refine lv_iload_n hx hb dX7_countPrimitiveSigned_37 rfl (lv_at hl 1 rfl) ?_
              refine lv_iload_n hx hb dX7_countPrimitiveSigned_38 rfl (lv_at hl 0 rfl) ?_
              obtain ⟨g_39, hM⟩ := gd_some hM
              refine lv_irem hx hb dX7_countPrimitiveSigned_39 (nz_ne g_39) ?_
              refine lv_if_ne (tgt := 87) hx hb dX7_countPrimitiveSigned_40 (by decide) (fun c_40 => ?_) (fun c_40 => ?_)
              · have hM := if_f hM c_40
                refine lv_iinc (v := z_32.1 + (nI 1)) (lv' := [(3, .int (z_32.1 + (nI 1))), (2, .int z_12.1), (0, .ref h_t)]) hx hb dX7_countPrimitiveSigned_87 hl (k := 0) rfl (congrArg (fun q => z_32.1 + q) (show Int32.ofInt (1) = (nI 1) by decide)) (by decide) rfl (fun ls hl => ?_)
                refine lv_goto (tgt := 32) hx hb dX7_countPrimitiveSigned_90 (by decide) ?_
                obtain rfl := Option.some.inj hM
                exact ih _ hX _ _ _ hP hD hS (lv_sub hl [0, 1, 2] rfl)
              · have hM := if_t hM c_40
                refine lv_iload_n hx hb dX7_countPrimitiveSigned_43 rfl (lv_at hl 1 rfl) ?_
                refine lv_iload_n hx hb dX7_countPrimitiveSigned_44 rfl (lv_at hl 0 rfl) ?_
                obtain ⟨g_45, hM⟩ := gd_some hM
                refine lv_idiv hx hb dX7_countPrimitiveSigned_45 (nz_ne g_45) ?_
                refine lv_iconst (v := (nI 2)) hx hb dX7_countPrimitiveSigned_46 (by decide) ?_
                refine lv_irem hx hb dX7_countPrimitiveSigned_47 (by decide) ?_
                obtain ⟨j_48, hB, hM⟩ := bd_some hM
                have hJ_48 : ∀ (H : Heap) (locs : List Loc) (ls : Array Slot), va_P (gD g) vwCl [ob h_t 7 [.ref h_t_closed, .ref h_t_closedSigned, .ref h_t_primitive, .ref h_t_primitiveSigned, .ref h_t_reached, .ref h_t_arrived], aJ g h_t_closed 19 q_2.1, aJ g h_t_closedSigned 19 q_7.1, aJ g h_t_primitive 19 q_2.2.1, aJ g h_t_primitiveSigned 19 z_32.2, aJ g h_t_reached 18 q_7.2.1, aJ g h_t_arrived 6 q_7.2.2, ob h_p1 2 [.int p1_vertices, .int p1_edges, .ref h_p1_firsts, .ref h_p1_seconds, .ref h_p1_signs], aI g h_p1_firsts 9 a_p1_firsts, aI g h_p1_seconds 9 a_p1_seconds, aI g h_p1_signs 9 a_p1_signs] H → va_D A [ob h_t 7 [.ref h_t_closed, .ref h_t_closedSigned, .ref h_t_primitive, .ref h_t_primitiveSigned, .ref h_t_reached, .ref h_t_arrived], aJ g h_t_closed 19 q_2.1, aJ g h_t_closedSigned 19 q_7.1, aJ g h_t_primitive 19 q_2.2.1, aJ g h_t_primitiveSigned 19 z_32.2, aJ g h_t_reached 18 q_7.2.1, aJ g h_t_arrived 6 q_7.2.2, ob h_p1 2 [.int p1_vertices, .int p1_edges, .ref h_p1_firsts, .ref h_p1_seconds, .ref h_p1_signs], aI g h_p1_firsts 9 a_p1_firsts, aI g h_p1_seconds 9 a_p1_seconds, aI g h_p1_signs 9 a_p1_signs] → va_S A s.heap H locs → lv_has ls 5 [(3, .int z_32.1), (2, .int z_12.1), (0, .ref h_t)] → W p l e (rmv 5 125) s m args below meth c H locs 0 0 Q (F0 m 56 ls [.int j_48]) := by
                  intro H locs ls hP hD hS hl
                  refine lv_istore (lv' := [(4, .int j_48), (3, .int z_32.1), (2, .int z_12.1), (0, .ref h_t)]) hx hb dX7_countPrimitiveSigned_56 hl (by decide) rfl (fun ls hl => ?_)
                  refine lv_aload_n hx hb dX7_countPrimitiveSigned_58 rfl (lv_at hl 3 rfl) ?_
                  refine w_get cx hP 0 7 3 rfl rfl (by decide) m_141 rfl rfl dX7_countPrimitiveSigned_59 ?_
                  refine lv_iload_n hx hb dX7_countPrimitiveSigned_62 rfl (lv_at hl 2 rfl) ?_
                  refine lv_dup2_11 hx hb dX7_countPrimitiveSigned_63 rfl rfl ?_
                  obtain ⟨g_64, hM⟩ := gd_some hM
                  refine w_lald cx hP 4 rfl g_64 dX7_countPrimitiveSigned_64 ?_
                  refine lv_iload hx hb dX7_countPrimitiveSigned_65 (lv_at hl 0 rfl) ?_
                  obtain ⟨j_67, hB, hM⟩ := bd_some hM
                  have hJ_67 : ∀ (H : Heap) (locs : List Loc) (ls : Array Slot), va_P (gD g) vwCl [ob h_t 7 [.ref h_t_closed, .ref h_t_closedSigned, .ref h_t_primitive, .ref h_t_primitiveSigned, .ref h_t_reached, .ref h_t_arrived], aJ g h_t_closed 19 q_2.1, aJ g h_t_closedSigned 19 q_7.1, aJ g h_t_primitive 19 q_2.2.1, aJ g h_t_primitiveSigned 19 z_32.2, aJ g h_t_reached 18 q_7.2.1, aJ g h_t_arrived 6 q_7.2.2, ob h_p1 2 [.int p1_vertices, .int p1_edges, .ref h_p1_firsts, .ref h_p1_seconds, .ref h_p1_signs], aI g h_p1_firsts 9 a_p1_firsts, aI g h_p1_seconds 9 a_p1_seconds, aI g h_p1_signs 9 a_p1_signs] H → va_D A [ob h_t 7 [.ref h_t_closed, .ref h_t_closedSigned, .ref h_t_primitive, .ref h_t_primitiveSigned, .ref h_t_reached, .ref h_t_arrived], aJ g h_t_closed 19 q_2.1, aJ g h_t_closedSigned 19 q_7.1, aJ g h_t_primitive 19 q_2.2.1, aJ g h_t_primitiveSigned 19 z_32.2, aJ g h_t_reached 18 q_7.2.1, aJ g h_t_arrived 6 q_7.2.2, ob h_p1 2 [.int p1_vertices, .int p1_edges, .ref h_p1_firsts, .ref h_p1_seconds, .ref h_p1_signs], aI g h_p1_firsts 9 a_p1_firsts, aI g h_p1_seconds 9 a_p1_seconds, aI g h_p1_signs 9 a_p1_signs] → va_S A s.heap H locs → lv_has ls 5 [(3, .int z_32.1), (2, .int z_12.1), (0, .ref h_t)] → W p l e (rmv 5 125) s m args below meth c H locs 0 0 Q (F0 m 85 ls [.long j_67, .long (z_32.2 z_12.1.toNatClampNeg), .int z_12.1, .ref h_t_primitiveSigned]) := by
                    intro H locs ls hP hD hS hl
                    refine lv_lsub hx hb dX7_countPrimitiveSigned_85 ?_
                    obtain ⟨g_86, hM⟩ := gd_some hM
                    refine w_last cx hP hD hS 4 rfl g_86 dX7_countPrimitiveSigned_86 [ob h_t 7 [.ref h_t_closed, .ref h_t_closedSigned, .ref h_t_primitive, .ref h_t_primitiveSigned, .ref h_t_reached, .ref h_t_arrived], aJ g h_t_closed 19 q_2.1, aJ g h_t_closedSigned 19 q_7.1, aJ g h_t_primitive 19 q_2.2.1, aJ g h_t_primitiveSigned 19 (vp_updL z_32.2 z_12.1.toNatClampNeg ((z_32.2 z_12.1.toNatClampNeg) - j_67)), aJ g h_t_reached 18 q_7.2.1, aJ g h_t_arrived 6 q_7.2.2, ob h_p1 2 [.int p1_vertices, .int p1_edges, .ref h_p1_firsts, .ref h_p1_seconds, .ref h_p1_signs], aI g h_p1_firsts 9 a_p1_firsts, aI g h_p1_seconds 9 a_p1_seconds, aI g h_p1_signs 9 a_p1_signs] rfl (fun H locs hP hD hS => ?_)
                    refine lv_iinc (v := z_32.1 + (nI 1)) (lv' := [(3, .int (z_32.1 + (nI 1))), (2, .int z_12.1), (0, .ref h_t)]) hx hb dX7_countPrimitiveSigned_87 hl (k := 0) rfl (congrArg (fun q => z_32.1 + q) (show Int32.ofInt (1) = (nI 1) by decide)) (by decide) rfl (fun ls hl => ?_)
                    refine lv_goto (tgt := 32) hx hb dX7_countPrimitiveSigned_90 (by decide) ?_
                    obtain rfl := Option.some.inj hM
                    exact ih _ hX _ _ _ hP hD hS (lv_sub hl [0, 1, 2] rfl)
                  clear hM
                  have hM := hB
                  clear hB
                  refine lv_if_eq (tgt := 79) hx hb dX7_countPrimitiveSigned_67 (by decide) (fun c_67 => ?_) (fun c_67 => ?_)
                  · have hM := if_t hM c_67
                    refine lv_aload_n hx hb dX7_countPrimitiveSigned_79 rfl (lv_at hl 3 rfl) ?_
                    refine w_get cx hP 0 7 3 rfl rfl (by decide) m_141 rfl rfl dX7_countPrimitiveSigned_80 ?_
                    refine lv_iload_n hx hb dX7_countPrimitiveSigned_83 rfl (lv_at hl 1 rfl) ?_
                    obtain ⟨g_84, hM⟩ := gd_some hM
                    refine w_lald cx hP 4 rfl g_84 dX7_countPrimitiveSigned_84 ?_
                    obtain rfl := Option.some.inj hM
                    exact hJ_67 _ _ _ hP hD hS (lv_sub hl [1, 2, 3] rfl)
                  · have hM := if_f hM c_67
                    refine lv_aload_n hx hb dX7_countPrimitiveSigned_70 rfl (lv_at hl 3 rfl) ?_
                    refine w_get cx hP 0 7 2 rfl rfl (by decide) m_139 rfl rfl dX7_countPrimitiveSigned_71 ?_
                    refine lv_iload_n hx hb dX7_countPrimitiveSigned_74 rfl (lv_at hl 1 rfl) ?_
                    obtain ⟨g_75, hM⟩ := gd_some hM
                    refine w_lald cx hP 3 rfl g_75 dX7_countPrimitiveSigned_75 ?_
                    refine lv_goto (tgt := 85) hx hb dX7_countPrimitiveSigned_76 (by decide) ?_
                    obtain rfl := Option.some.inj hM
                    exact hJ_67 _ _ _ hP hD hS (lv_sub hl [1, 2, 3] rfl)
                clear hM
                have hM := hB
                clear hB
                refine lv_if_ne (tgt := 55) hx hb dX7_countPrimitiveSigned_48 (by decide) (fun c_48 => ?_) (fun c_48 => ?_)
                · have hM := if_f hM c_48
                  refine lv_iconst (v := (nI 0)) hx hb dX7_countPrimitiveSigned_55 (by decide) ?_
                  obtain rfl := Option.some.inj hM
                  exact hJ_48 _ _ _ hP hD hS (lv_sub hl [0, 1, 2] rfl)
                · have hM := if_t hM c_48
                  refine lv_iconst (v := (nI 1)) hx hb dX7_countPrimitiveSigned_51 (by decide) ?_
                  refine lv_goto (tgt := 56) hx hb dX7_countPrimitiveSigned_52 (by decide) ?_
                  obtain rfl := Option.some.inj hM
                  exact hJ_48 _ _ _ hP hD hS (lv_sub hl [0, 1, 2] rfl)
        exact hL_32 n _ hn _ _ _ hP hD hS (lv_sub hl [0, 1, 2] rfl)
  exact hL_12 n _ hn _ _ _ hP hD hS (lv_sub hl [0, 1] rfl)
noncomputable def b_X0_makeFrom_20 (n_p1 : Nat) (a_p1 : Nat → Int64) (z_9 : Int32 × (Nat → Int64)) : Int32 × Int64 → Option ((Int32 × Int64) ⊕ ((Int64))) := fun z_20 =>
  if z_9.1 < z_20.1 then some (.inr z_20.2) else gd (inb z_20.1 n_p1) (gd (inb (z_9.1 - z_20.1) 19) (nm (z_20.2 + ((a_p1 z_20.1.toNatClampNeg) * (z_9.2 (z_9.1 - z_20.1).toNatClampNeg))) (fun (x_42 : Int64) => some (.inl (z_20.1 + (nI 1), x_42)))))
noncomputable def b_X0_makeFrom_9 (n_p1 : Nat) (a_p1 : Nat → Int64) : Int32 × (Nat → Int64) → Option ((Int32 × (Nat → Int64)) ⊕ ((Nat → Int64))) := fun z_9 =>
  if (nI 18) < z_9.1 then some (.inr z_9.2) else bd (wh (b_X0_makeFrom_20 n_p1 a_p1 z_9) ((nI 1), (0 : Int64))) (fun (r_20 : Int64) => gd (nzl z_9.1.toInt64) (gd (inb z_9.1 19) (some (.inl (z_9.1 + (nI 1), vp_updL z_9.2 z_9.1.toNatClampNeg ((-r_20) / z_9.1.toInt64))))))
noncomputable def f_X0_makeFrom (a_t_coefficients : Nat → Int64) (n_p1 : Nat) (a_p1 : Nat → Int64) : Option (Nat → Int64) :=
  gd (inb (nI 0) 19) (bd (wh (b_X0_makeFrom_9 n_p1 a_p1) ((nI 1), vp_updL a_t_coefficients (nI 0).toNatClampNeg (1 : Int64))) (fun (r_9 : Nat → Int64) => some r_9))
theorem yq_X0_makeFrom : yq yX0_makeFrom 1 := by unfold yq; decide +kernel
set_option maxHeartbeats 4000000 in
set_option maxRecDepth 100000 in
theorem c_X0_makeFrom (g : GG) (l : Launch) (h_t : Nat) (h_t_coefficients : Nat) (h_t_work : Nat) (h_p1 : Nat) (a_t_coefficients : Nat → Int64) (n_p1 : Nat) (a_p1 : Nat → Int64) {R : Nat → Int64} (hM : f_X0_makeFrom a_t_coefficients n_p1 a_p1 = some R) : CT g l yX0_makeFrom cX0_makeFrom 6 none 0 0 [.ref h_t, .ref h_p1] [ob h_t 0 [.ref h_t_coefficients, .ref h_t_work], aJ g h_t_coefficients 19 a_t_coefficients, aJ g h_p1 n_p1 a_p1] [ob h_t 0 [.ref h_t_coefficients, .ref h_t_work], aJ g h_t_coefficients 19 R, aJ g h_p1 n_p1 a_p1] none := by
  refine ct_v (by decide +kernel) (Nat.le_of_ble_eq_true rfl) ?_
  intro p e s m args below meth c Q A ls cx hP hD hA hl hfin
  obtain ⟨hx, hb, hml, hown, hts, hK⟩ := id cx
  have hl : lv_has ls 6 [(0, .ref h_t), (1, .ref h_p1)] := hl
  have hS : va_S A s.heap s.heap [] := va_S.rf
  refine lv_aload_n hx hb dX0_makeFrom_0 rfl (lv_at hl 0 rfl) ?_
  refine w_get cx hP 0 0 0 rfl rfl (by decide) m_179 rfl rfl dX0_makeFrom_1 ?_
  refine lv_iconst (v := (nI 0)) hx hb dX0_makeFrom_4 (by decide) ?_
  refine lv_lconst (v := (1 : Int64)) hx hb dX0_makeFrom_5 (by decide) ?_
  obtain ⟨g_6, hM⟩ := gd_some hM
  refine w_last cx hP hD hS 1 rfl g_6 dX0_makeFrom_6 [ob h_t 0 [.ref h_t_coefficients, .ref h_t_work], aJ g h_t_coefficients 19 (vp_updL a_t_coefficients (nI 0).toNatClampNeg (1 : Int64)), aJ g h_p1 n_p1 a_p1] rfl (fun H locs hP hD hS => ?_)
  refine lv_iconst (v := (nI 1)) hx hb dX0_makeFrom_7 (by decide) ?_
  refine lv_istore_n (lv' := [(2, .int (nI 1)), (0, .ref h_t), (1, .ref h_p1)]) hx hb dX0_makeFrom_8 rfl hl (by decide) rfl (fun ls hl => ?_)
  obtain ⟨r_9, hw, hM⟩ := bd_some hM
  obtain ⟨n, hn⟩ := wh_some hw
  clear hw
  have hE_9_0 : ∀ (H : Heap) (locs : List Loc) (ls : Array Slot), va_P (gD g) vwCl [ob h_t 0 [.ref h_t_coefficients, .ref h_t_work], aJ g h_t_coefficients 19 r_9, aJ g h_p1 n_p1 a_p1] H → va_D A [ob h_t 0 [.ref h_t_coefficients, .ref h_t_work], aJ g h_t_coefficients 19 r_9, aJ g h_p1 n_p1 a_p1] → va_S A s.heap H locs → lv_has ls 6 [] → W p l e (rmv 0 0) s m args below meth c H locs 0 0 Q (F0 m 66 ls []) := by
    intro H locs ls hP hD hS hl
    obtain rfl := Option.some.inj hM
    exact hfin 66 _ _ _ dX0_makeFrom_66 hP hD hS
  clear hM
  have hL_9 : ∀ (n : Nat) (z_9 : Int32 × (Nat → Int64)), it (b_X0_makeFrom_9 n_p1 a_p1) n z_9 = some r_9 → ∀ (H : Heap) (locs : List Loc) (ls : Array Slot), va_P (gD g) vwCl [ob h_t 0 [.ref h_t_coefficients, .ref h_t_work], aJ g h_t_coefficients 19 z_9.2, aJ g h_p1 n_p1 a_p1] H → va_D A [ob h_t 0 [.ref h_t_coefficients, .ref h_t_work], aJ g h_t_coefficients 19 z_9.2, aJ g h_p1 n_p1 a_p1] → va_S A s.heap H locs → lv_has ls 6 [(2, .int z_9.1), (0, .ref h_t), (1, .ref h_p1)] → W p l e (rmv 0 0) s m args below meth c H locs 0 0 Q (F0 m 9 ls []) := by
    intro n
    induction n with
    | zero => intro z_9 hn; exact (it_zero hn).elim
    | succ n ih =>
      intro z_9 hn H locs ls hP hD hS hl
      obtain ⟨x, hM, hX⟩ := it_succ hn
      clear hn
      refine lv_iload_n hx hb dX0_makeFrom_9 rfl (lv_at hl 0 rfl) ?_
      refine lv_bipush (v := (nI 18)) hx hb dX0_makeFrom_10 (by decide) ?_
      refine lv_icmp_gt (tgt := 66) hx hb dX0_makeFrom_12 (by decide) (fun c_12 => ?_) (fun c_12 => ?_)
      · have hM := if_t hM c_12
        obtain rfl := Option.some.inj hM
        obtain rfl : _ = r_9 := hX
        exact hE_9_0 _ _ _ hP hD hS (lv_sub hl [] rfl)
      · have hM := if_f hM c_12
        refine lv_lconst (v := (0 : Int64)) hx hb dX0_makeFrom_15 (by decide) ?_
        refine lv_lstore_n (lv' := [(3, .long (0 : Int64)), (2, .int z_9.1), (0, .ref h_t), (1, .ref h_p1)]) hx hb dX0_makeFrom_16 rfl hl (by decide) rfl (fun ls hl => ?_)
        refine lv_iconst (v := (nI 1)) hx hb dX0_makeFrom_17 (by decide) ?_
        refine lv_istore (lv' := [(5, .int (nI 1)), (3, .long (0 : Int64)), (2, .int z_9.1), (0, .ref h_t), (1, .ref h_p1)]) hx hb dX0_makeFrom_18 hl (by decide) rfl (fun ls hl => ?_)
        obtain ⟨r_20, hw, hM⟩ := bd_some hM
        obtain ⟨n, hn⟩ := wh_some hw
        clear hw
        have hE_20_0 : ∀ (H : Heap) (locs : List Loc) (ls : Array Slot), va_P (gD g) vwCl [ob h_t 0 [.ref h_t_coefficients, .ref h_t_work], aJ g h_t_coefficients 19 z_9.2, aJ g h_p1 n_p1 a_p1] H → va_D A [ob h_t 0 [.ref h_t_coefficients, .ref h_t_work], aJ g h_t_coefficients 19 z_9.2, aJ g h_p1 n_p1 a_p1] → va_S A s.heap H locs → lv_has ls 6 [(3, .long r_20), (2, .int z_9.1), (0, .ref h_t), (1, .ref h_p1)] → W p l e (rmv 0 0) s m args below meth c H locs 0 0 Q (F0 m 49 ls []) := by
          intro H locs ls hP hD hS hl
          refine lv_aload_n hx hb dX0_makeFrom_49 rfl (lv_at hl 2 rfl) ?_
          refine w_get cx hP 0 0 0 rfl rfl (by decide) m_179 rfl rfl dX0_makeFrom_50 ?_
          refine lv_iload_n hx hb dX0_makeFrom_53 rfl (lv_at hl 1 rfl) ?_
          refine lv_lload_n hx hb dX0_makeFrom_54 rfl (lv_at hl 0 rfl) ?_
          refine lv_lneg hx hb dX0_makeFrom_55 ?_
          refine lv_iload_n hx hb dX0_makeFrom_56 rfl (lv_at hl 1 rfl) ?_
          refine lv_i2l (v := z_9.1.toInt64) hx hb dX0_makeFrom_57 rfl ?_
          obtain ⟨g_58, hM⟩ := gd_some hM
          refine lv_ldiv hx hb dX0_makeFrom_58 (nzl_ne g_58) ?_
          obtain ⟨g_59, hM⟩ := gd_some hM
          refine w_last cx hP hD hS 1 rfl g_59 dX0_makeFrom_59 [ob h_t 0 [.ref h_t_coefficients, .ref h_t_work], aJ g h_t_coefficients 19 (vp_updL z_9.2 z_9.1.toNatClampNeg ((-r_20) / z_9.1.toInt64)), aJ g h_p1 n_p1 a_p1] rfl (fun H locs hP hD hS => ?_)
          refine lv_iinc (v := z_9.1 + (nI 1)) (lv' := [(2, .int (z_9.1 + (nI 1))), (3, .long r_20), (0, .ref h_t), (1, .ref h_p1)]) hx hb dX0_makeFrom_60 hl (k := 1) rfl (congrArg (fun q => z_9.1 + q) (show Int32.ofInt (1) = (nI 1) by decide)) (by decide) rfl (fun ls hl => ?_)
          refine lv_goto (tgt := 9) hx hb dX0_makeFrom_63 (by decide) ?_
          obtain rfl := Option.some.inj hM
          exact ih _ hX _ _ _ hP hD hS (lv_sub hl [0, 2, 3] rfl)
        clear hM
        have hL_20 : ∀ (n : Nat) (z_20 : Int32 × Int64), it (b_X0_makeFrom_20 n_p1 a_p1 z_9) n z_20 = some r_20 → ∀ (H : Heap) (locs : List Loc) (ls : Array Slot), va_P (gD g) vwCl [ob h_t 0 [.ref h_t_coefficients, .ref h_t_work], aJ g h_t_coefficients 19 z_9.2, aJ g h_p1 n_p1 a_p1] H → va_D A [ob h_t 0 [.ref h_t_coefficients, .ref h_t_work], aJ g h_t_coefficients 19 z_9.2, aJ g h_p1 n_p1 a_p1] → va_S A s.heap H locs → lv_has ls 6 [(5, .int z_20.1), (3, .long z_20.2), (2, .int z_9.1), (0, .ref h_t), (1, .ref h_p1)] → W p l e (rmv 0 0) s m args below meth c H locs 0 0 Q (F0 m 20 ls []) := by
          intro n
          induction n with
          | zero => intro z_20 hn; exact (it_zero hn).elim
          | succ n ih =>
            intro z_20 hn H locs ls hP hD hS hl
            obtain ⟨x, hM, hX⟩ := it_succ hn
            clear hn
            refine lv_iload hx hb dX0_makeFrom_20 (lv_at hl 0 rfl) ?_
            refine lv_iload_n hx hb dX0_makeFrom_22 rfl (lv_at hl 2 rfl) ?_
            refine lv_icmp_gt (tgt := 49) hx hb dX0_makeFrom_23 (by decide) (fun c_23 => ?_) (fun c_23 => ?_)
            · have hM := if_t hM c_23
              obtain rfl := Option.some.inj hM
              obtain rfl : _ = r_20 := hX
              exact hE_20_0 _ _ _ hP hD hS (lv_sub hl [1, 2, 3, 4] rfl)
            · have hM := if_f hM c_23
              refine lv_lload_n hx hb dX0_makeFrom_26 rfl (lv_at hl 1 rfl) ?_
              refine lv_aload_n hx hb dX0_makeFrom_27 rfl (lv_at hl 4 rfl) ?_
              refine lv_iload hx hb dX0_makeFrom_28 (lv_at hl 0 rfl) ?_
              obtain ⟨g_30, hM⟩ := gd_some hM
              refine w_lald cx hP 2 rfl g_30 dX0_makeFrom_30 ?_
              refine lv_aload_n hx hb dX0_makeFrom_31 rfl (lv_at hl 3 rfl) ?_
              refine w_get cx hP 0 0 0 rfl rfl (by decide) m_179 rfl rfl dX0_makeFrom_32 ?_
              refine lv_iload_n hx hb dX0_makeFrom_35 rfl (lv_at hl 2 rfl) ?_
              refine lv_iload hx hb dX0_makeFrom_36 (lv_at hl 0 rfl) ?_
              refine lv_isub hx hb dX0_makeFrom_38 ?_
              obtain ⟨g_39, hM⟩ := gd_some hM
              refine w_lald cx hP 1 rfl g_39 dX0_makeFrom_39 ?_
              refine lv_lmul hx hb dX0_makeFrom_40 ?_
              refine lv_ladd hx hb dX0_makeFrom_41 ?_
              refine lv_topl (fun x_42 ex_42 => ?_)
              have hM := nm_some hM x_42 ex_42
              refine lv_lstore_n (lv' := [(3, .long x_42), (5, .int z_20.1), (2, .int z_9.1), (0, .ref h_t), (1, .ref h_p1)]) hx hb dX0_makeFrom_42 rfl hl (by decide) rfl (fun ls hl => ?_)
              refine lv_iinc (v := z_20.1 + (nI 1)) (lv' := [(5, .int (z_20.1 + (nI 1))), (3, .long x_42), (2, .int z_9.1), (0, .ref h_t), (1, .ref h_p1)]) hx hb dX0_makeFrom_43 hl (k := 1) rfl (congrArg (fun q => z_20.1 + q) (show Int32.ofInt (1) = (nI 1) by decide)) (by decide) rfl (fun ls hl => ?_)
              refine lv_goto (tgt := 20) hx hb dX0_makeFrom_46 (by decide) ?_
              obtain rfl := Option.some.inj hM
              exact ih _ hX _ _ _ hP hD hS (lv_sub hl [0, 1, 2, 3, 4] rfl)
        exact hL_20 n _ hn _ _ _ hP hD hS (lv_sub hl [0, 1, 2, 3, 4] rfl)
  exact hL_9 n _ hn _ _ _ hP hD hS (lv_sub hl [0, 1, 2] rfl)
noncomputable def b_X0_inverseCoefficient_19 (a_t_coefficients : Nat → Int64) (z_9 : Int32 × (Nat → Int64)) : Int32 × Int64 → Option ((Int32 × Int64) ⊕ ((Int64))) := fun z_19 =>
  if z_9.1 < z_19.1 then some (.inr z_19.2) else gd (inb z_19.1 19) (gd (inb (z_9.1 - z_19.1) 19) (nm (z_19.2 + ((a_t_coefficients z_19.1.toNatClampNeg) * (z_9.2 (z_9.1 - z_19.1).toNatClampNeg))) (fun (x_44 : Int64) => some (.inl (z_19.1 + (nI 1), x_44)))))
noncomputable def b_X0_inverseCoefficient_9 (p1 : Int32) (a_t_coefficients : Nat → Int64) : Int32 × (Nat → Int64) → Option ((Int32 × (Nat → Int64)) ⊕ ((Nat → Int64))) := fun z_9 =>
  if p1 < z_9.1 then some (.inr z_9.2) else bd (wh (b_X0_inverseCoefficient_19 a_t_coefficients z_9) ((nI 1), (0 : Int64))) (fun (r_19 : Int64) => gd (inb z_9.1 19) (some (.inl (z_9.1 + (nI 1), vp_updL z_9.2 z_9.1.toNatClampNeg (-r_19)))))
noncomputable def f_X0_inverseCoefficient (p1 : Int32) (a_t_coefficients : Nat → Int64) (a_t_work : Nat → Int64) : Option (Int64 × (Nat → Int64)) :=
  gd (inb (nI 0) 19) (bd (wh (b_X0_inverseCoefficient_9 p1 a_t_coefficients) ((nI 1), vp_updL a_t_work (nI 0).toNatClampNeg (1 : Int64))) (fun (r_9 : Nat → Int64) => gd (inb p1 19) (some (r_9 p1.toNatClampNeg, r_9))))
theorem yq_X0_inverseCoefficient : yq yX0_inverseCoefficient 1 := by unfold yq; decide +kernel
set_option maxHeartbeats 4000000 in
set_option maxRecDepth 100000 in
theorem c_X0_inverseCoefficient (g : GG) (l : Launch) (h_t : Nat) (h_t_coefficients : Nat) (h_t_work : Nat) (p1 : Int32) (a_t_coefficients : Nat → Int64) (a_t_work : Nat → Int64) {R : Int64 × (Nat → Int64)} (hM : f_X0_inverseCoefficient p1 a_t_coefficients a_t_work = some R) : CT g l yX0_inverseCoefficient cX0_inverseCoefficient 6 (some .long) 0 0 [.ref h_t, .int p1] [ob h_t 0 [.ref h_t_coefficients, .ref h_t_work], aJ g h_t_coefficients 19 a_t_coefficients, aJ g h_t_work 19 a_t_work] [ob h_t 0 [.ref h_t_coefficients, .ref h_t_work], aJ g h_t_coefficients 19 a_t_coefficients, aJ g h_t_work 19 R.2] (some (.long R.1)) := by
  refine ct_l (by decide +kernel) (Nat.le_of_ble_eq_true rfl) ?_
  intro p e s m args below meth c Q A ls cx hP hD hA hl hfin
  obtain ⟨hx, hb, hml, hown, hts, hK⟩ := id cx
  have hl : lv_has ls 6 [(0, .ref h_t), (1, .int p1)] := hl
  have hS : va_S A s.heap s.heap [] := va_S.rf
  refine lv_aload_n hx hb dX0_inverseCoefficient_0 rfl (lv_at hl 0 rfl) ?_
  refine w_get cx hP 0 0 1 rfl rfl (by decide) m_181 rfl rfl dX0_inverseCoefficient_1 ?_
  refine lv_iconst (v := (nI 0)) hx hb dX0_inverseCoefficient_4 (by decide) ?_
  refine lv_lconst (v := (1 : Int64)) hx hb dX0_inverseCoefficient_5 (by decide) ?_
  obtain ⟨g_6, hM⟩ := gd_some hM
  refine w_last cx hP hD hS 2 rfl g_6 dX0_inverseCoefficient_6 [ob h_t 0 [.ref h_t_coefficients, .ref h_t_work], aJ g h_t_coefficients 19 a_t_coefficients, aJ g h_t_work 19 (vp_updL a_t_work (nI 0).toNatClampNeg (1 : Int64))] rfl (fun H locs hP hD hS => ?_)
  refine lv_iconst (v := (nI 1)) hx hb dX0_inverseCoefficient_7 (by decide) ?_
  refine lv_istore_n (lv' := [(2, .int (nI 1)), (0, .ref h_t), (1, .int p1)]) hx hb dX0_inverseCoefficient_8 rfl hl (by decide) rfl (fun ls hl => ?_)
  obtain ⟨r_9, hw, hM⟩ := bd_some hM
  obtain ⟨n, hn⟩ := wh_some hw
  clear hw
  have hE_9_0 : ∀ (H : Heap) (locs : List Loc) (ls : Array Slot), va_P (gD g) vwCl [ob h_t 0 [.ref h_t_coefficients, .ref h_t_work], aJ g h_t_coefficients 19 a_t_coefficients, aJ g h_t_work 19 r_9] H → va_D A [ob h_t 0 [.ref h_t_coefficients, .ref h_t_work], aJ g h_t_coefficients 19 a_t_coefficients, aJ g h_t_work 19 r_9] → va_S A s.heap H locs → lv_has ls 6 [(0, .ref h_t), (1, .int p1)] → W p l e (rmv 0 0) s m args below meth c H locs 0 0 Q (F0 m 65 ls []) := by
    intro H locs ls hP hD hS hl
    refine lv_aload_n hx hb dX0_inverseCoefficient_65 rfl (lv_at hl 0 rfl) ?_
    refine w_get cx hP 0 0 1 rfl rfl (by decide) m_181 rfl rfl dX0_inverseCoefficient_66 ?_
    refine lv_iload_n hx hb dX0_inverseCoefficient_69 rfl (lv_at hl 1 rfl) ?_
    obtain ⟨g_70, hM⟩ := gd_some hM
    refine w_lald cx hP 2 rfl g_70 dX0_inverseCoefficient_70 ?_
    obtain rfl := Option.some.inj hM
    exact hfin 71 _ _ _ dX0_inverseCoefficient_71 hP hD hS
  clear hM
  have hL_9 : ∀ (n : Nat) (z_9 : Int32 × (Nat → Int64)), it (b_X0_inverseCoefficient_9 p1 a_t_coefficients) n z_9 = some r_9 → ∀ (H : Heap) (locs : List Loc) (ls : Array Slot), va_P (gD g) vwCl [ob h_t 0 [.ref h_t_coefficients, .ref h_t_work], aJ g h_t_coefficients 19 a_t_coefficients, aJ g h_t_work 19 z_9.2] H → va_D A [ob h_t 0 [.ref h_t_coefficients, .ref h_t_work], aJ g h_t_coefficients 19 a_t_coefficients, aJ g h_t_work 19 z_9.2] → va_S A s.heap H locs → lv_has ls 6 [(2, .int z_9.1), (0, .ref h_t), (1, .int p1)] → W p l e (rmv 0 0) s m args below meth c H locs 0 0 Q (F0 m 9 ls []) := by
    intro n
    induction n with
    | zero => intro z_9 hn; exact (it_zero hn).elim
    | succ n ih =>
      intro z_9 hn H locs ls hP hD hS hl
      obtain ⟨x, hM, hX⟩ := it_succ hn
      clear hn
      refine lv_iload_n hx hb dX0_inverseCoefficient_9 rfl (lv_at hl 0 rfl) ?_
      refine lv_iload_n hx hb dX0_inverseCoefficient_10 rfl (lv_at hl 2 rfl) ?_
      refine lv_icmp_gt (tgt := 65) hx hb dX0_inverseCoefficient_11 (by decide) (fun c_11 => ?_) (fun c_11 => ?_)
      · have hM := if_t hM c_11
        obtain rfl := Option.some.inj hM
        obtain rfl : _ = r_9 := hX
        exact hE_9_0 _ _ _ hP hD hS (lv_sub hl [1, 2] rfl)
      · have hM := if_f hM c_11
        refine lv_lconst (v := (0 : Int64)) hx hb dX0_inverseCoefficient_14 (by decide) ?_
        refine lv_lstore_n (lv' := [(3, .long (0 : Int64)), (2, .int z_9.1), (0, .ref h_t), (1, .int p1)]) hx hb dX0_inverseCoefficient_15 rfl hl (by decide) rfl (fun ls hl => ?_)
        refine lv_iconst (v := (nI 1)) hx hb dX0_inverseCoefficient_16 (by decide) ?_
        refine lv_istore (lv' := [(5, .int (nI 1)), (3, .long (0 : Int64)), (2, .int z_9.1), (0, .ref h_t), (1, .int p1)]) hx hb dX0_inverseCoefficient_17 hl (by decide) rfl (fun ls hl => ?_)
        obtain ⟨r_19, hw, hM⟩ := bd_some hM
        obtain ⟨n, hn⟩ := wh_some hw
        clear hw
        have hE_19_0 : ∀ (H : Heap) (locs : List Loc) (ls : Array Slot), va_P (gD g) vwCl [ob h_t 0 [.ref h_t_coefficients, .ref h_t_work], aJ g h_t_coefficients 19 a_t_coefficients, aJ g h_t_work 19 z_9.2] H → va_D A [ob h_t 0 [.ref h_t_coefficients, .ref h_t_work], aJ g h_t_coefficients 19 a_t_coefficients, aJ g h_t_work 19 z_9.2] → va_S A s.heap H locs → lv_has ls 6 [(3, .long r_19), (2, .int z_9.1), (0, .ref h_t), (1, .int p1)] → W p l e (rmv 0 0) s m args below meth c H locs 0 0 Q (F0 m 51 ls []) := by
          intro H locs ls hP hD hS hl
          refine lv_aload_n hx hb dX0_inverseCoefficient_51 rfl (lv_at hl 2 rfl) ?_
          refine w_get cx hP 0 0 1 rfl rfl (by decide) m_181 rfl rfl dX0_inverseCoefficient_52 ?_
          refine lv_iload_n hx hb dX0_inverseCoefficient_55 rfl (lv_at hl 1 rfl) ?_
          refine lv_lload_n hx hb dX0_inverseCoefficient_56 rfl (lv_at hl 0 rfl) ?_
          refine lv_lneg hx hb dX0_inverseCoefficient_57 ?_
          obtain ⟨g_58, hM⟩ := gd_some hM
          refine w_last cx hP hD hS 2 rfl g_58 dX0_inverseCoefficient_58 [ob h_t 0 [.ref h_t_coefficients, .ref h_t_work], aJ g h_t_coefficients 19 a_t_coefficients, aJ g h_t_work 19 (vp_updL z_9.2 z_9.1.toNatClampNeg (-r_19))] rfl (fun H locs hP hD hS => ?_)
          refine lv_iinc (v := z_9.1 + (nI 1)) (lv' := [(2, .int (z_9.1 + (nI 1))), (3, .long r_19), (0, .ref h_t), (1, .int p1)]) hx hb dX0_inverseCoefficient_59 hl (k := 1) rfl (congrArg (fun q => z_9.1 + q) (show Int32.ofInt (1) = (nI 1) by decide)) (by decide) rfl (fun ls hl => ?_)
          refine lv_goto (tgt := 9) hx hb dX0_inverseCoefficient_62 (by decide) ?_
          obtain rfl := Option.some.inj hM
          exact ih _ hX _ _ _ hP hD hS (lv_sub hl [0, 2, 3] rfl)
        clear hM
        have hL_19 : ∀ (n : Nat) (z_19 : Int32 × Int64), it (b_X0_inverseCoefficient_19 a_t_coefficients z_9) n z_19 = some r_19 → ∀ (H : Heap) (locs : List Loc) (ls : Array Slot), va_P (gD g) vwCl [ob h_t 0 [.ref h_t_coefficients, .ref h_t_work], aJ g h_t_coefficients 19 a_t_coefficients, aJ g h_t_work 19 z_9.2] H → va_D A [ob h_t 0 [.ref h_t_coefficients, .ref h_t_work], aJ g h_t_coefficients 19 a_t_coefficients, aJ g h_t_work 19 z_9.2] → va_S A s.heap H locs → lv_has ls 6 [(5, .int z_19.1), (3, .long z_19.2), (2, .int z_9.1), (0, .ref h_t), (1, .int p1)] → W p l e (rmv 0 0) s m args below meth c H locs 0 0 Q (F0 m 19 ls []) := by
          intro n
          induction n with
          | zero => intro z_19 hn; exact (it_zero hn).elim
          | succ n ih =>
            intro z_19 hn H locs ls hP hD hS hl
            obtain ⟨x, hM, hX⟩ := it_succ hn
            clear hn
            refine lv_iload hx hb dX0_inverseCoefficient_19 (lv_at hl 0 rfl) ?_
            refine lv_iload_n hx hb dX0_inverseCoefficient_21 rfl (lv_at hl 2 rfl) ?_
            refine lv_icmp_gt (tgt := 51) hx hb dX0_inverseCoefficient_22 (by decide) (fun c_22 => ?_) (fun c_22 => ?_)
            · have hM := if_t hM c_22
              obtain rfl := Option.some.inj hM
              obtain rfl : _ = r_19 := hX
              exact hE_19_0 _ _ _ hP hD hS (lv_sub hl [1, 2, 3, 4] rfl)
            · have hM := if_f hM c_22
              refine lv_lload_n hx hb dX0_inverseCoefficient_25 rfl (lv_at hl 1 rfl) ?_
              refine lv_aload_n hx hb dX0_inverseCoefficient_26 rfl (lv_at hl 3 rfl) ?_
              refine w_get cx hP 0 0 0 rfl rfl (by decide) m_179 rfl rfl dX0_inverseCoefficient_27 ?_
              refine lv_iload hx hb dX0_inverseCoefficient_30 (lv_at hl 0 rfl) ?_
              obtain ⟨g_32, hM⟩ := gd_some hM
              refine w_lald cx hP 1 rfl g_32 dX0_inverseCoefficient_32 ?_
              refine lv_aload_n hx hb dX0_inverseCoefficient_33 rfl (lv_at hl 3 rfl) ?_
              refine w_get cx hP 0 0 1 rfl rfl (by decide) m_181 rfl rfl dX0_inverseCoefficient_34 ?_
              refine lv_iload_n hx hb dX0_inverseCoefficient_37 rfl (lv_at hl 2 rfl) ?_
              refine lv_iload hx hb dX0_inverseCoefficient_38 (lv_at hl 0 rfl) ?_
              refine lv_isub hx hb dX0_inverseCoefficient_40 ?_
              obtain ⟨g_41, hM⟩ := gd_some hM
              refine w_lald cx hP 2 rfl g_41 dX0_inverseCoefficient_41 ?_
              refine lv_lmul hx hb dX0_inverseCoefficient_42 ?_
              refine lv_ladd hx hb dX0_inverseCoefficient_43 ?_
              refine lv_topl (fun x_44 ex_44 => ?_)
              have hM := nm_some hM x_44 ex_44
              refine lv_lstore_n (lv' := [(3, .long x_44), (5, .int z_19.1), (2, .int z_9.1), (0, .ref h_t), (1, .int p1)]) hx hb dX0_inverseCoefficient_44 rfl hl (by decide) rfl (fun ls hl => ?_)
              refine lv_iinc (v := z_19.1 + (nI 1)) (lv' := [(5, .int (z_19.1 + (nI 1))), (3, .long x_44), (2, .int z_9.1), (0, .ref h_t), (1, .int p1)]) hx hb dX0_inverseCoefficient_45 hl (k := 1) rfl (congrArg (fun q => z_19.1 + q) (show Int32.ofInt (1) = (nI 1) by decide)) (by decide) rfl (fun ls hl => ?_)
              refine lv_goto (tgt := 19) hx hb dX0_inverseCoefficient_48 (by decide) ?_
              obtain rfl := Option.some.inj hM
              exact ih _ hX _ _ _ hP hD hS (lv_sub hl [0, 1, 2, 3, 4] rfl)
        exact hL_19 n _ hn _ _ _ hP hD hS (lv_sub hl [0, 1, 2, 3, 4] rfl)
  exact hL_9 n _ hn _ _ _ hP hD hS (lv_sub hl [0, 1, 2] rfl)
noncomputable def b_X0_valueAt_6 (p1 : Int64) (a_t_coefficients : Nat → Int64) : Int32 × Int64 → Option ((Int32 × Int64) ⊕ ((Int64))) := fun z_6 =>
  if z_6.1 < 0 then some (.inr z_6.2) else gd (inb z_6.1 19) (nm ((z_6.2 * p1) + (a_t_coefficients z_6.1.toNatClampNeg)) (fun (x_22 : Int64) => nm (z_6.1 + (nI 4294967295)) (fun (x_23 : Int32) => some (.inl (x_23, x_22)))))
noncomputable def f_X0_valueAt (p1 : Int64) (a_t_coefficients : Nat → Int64) : Option (Int64) :=
  bd (wh (b_X0_valueAt_6 p1 a_t_coefficients) ((nI 18), (0 : Int64))) (fun (r_6 : Int64) => some r_6)
theorem yq_X0_valueAt : yq yX0_valueAt 1 := by unfold yq; decide +kernel
set_option maxHeartbeats 4000000 in
set_option maxRecDepth 100000 in
theorem c_X0_valueAt (g : GG) (l : Launch) (h_t : Nat) (h_t_coefficients : Nat) (h_t_work : Nat) (p1 : Int64) (a_t_coefficients : Nat → Int64) {R : Int64} (hM : f_X0_valueAt p1 a_t_coefficients = some R) : CT g l yX0_valueAt cX0_valueAt 6 (some .long) 0 0 [.ref h_t, .long p1] [ob h_t 0 [.ref h_t_coefficients, .ref h_t_work], aJ g h_t_coefficients 19 a_t_coefficients] [ob h_t 0 [.ref h_t_coefficients, .ref h_t_work], aJ g h_t_coefficients 19 a_t_coefficients] (some (.long R)) := by
  refine ct_l (by decide +kernel) (Nat.le_of_ble_eq_true rfl) ?_
  intro p e s m args below meth c Q A ls cx hP hD hA hl hfin
  obtain ⟨hx, hb, hml, hown, hts, hK⟩ := id cx
  have hl : lv_has ls 6 [(0, .ref h_t), (1, .long p1)] := hl
  have hS : va_S A s.heap s.heap [] := va_S.rf
  refine lv_lconst (v := (0 : Int64)) hx hb dX0_valueAt_0 (by decide) ?_
  refine lv_lstore_n (lv' := [(3, .long (0 : Int64)), (0, .ref h_t), (1, .long p1)]) hx hb dX0_valueAt_1 rfl hl (by decide) rfl (fun ls hl => ?_)
  refine lv_bipush (v := (nI 18)) hx hb dX0_valueAt_2 (by decide) ?_
  refine lv_istore (lv' := [(5, .int (nI 18)), (3, .long (0 : Int64)), (0, .ref h_t), (1, .long p1)]) hx hb dX0_valueAt_4 hl (by decide) rfl (fun ls hl => ?_)
  obtain ⟨r_6, hw, hM⟩ := bd_some hM
  obtain ⟨n, hn⟩ := wh_some hw
  clear hw
  have hE_6_0 : ∀ (H : Heap) (locs : List Loc) (ls : Array Slot), va_P (gD g) vwCl [ob h_t 0 [.ref h_t_coefficients, .ref h_t_work], aJ g h_t_coefficients 19 a_t_coefficients] H → va_D A [ob h_t 0 [.ref h_t_coefficients, .ref h_t_work], aJ g h_t_coefficients 19 a_t_coefficients] → va_S A s.heap H locs → lv_has ls 6 [(3, .long r_6)] → W p l e (rmv 0 0) s m args below meth c H locs 0 0 Q (F0 m 29 ls []) := by
    intro H locs ls hP hD hS hl
    refine lv_lload_n hx hb dX0_valueAt_29 rfl (lv_at hl 0 rfl) ?_
    obtain rfl := Option.some.inj hM
    exact hfin 30 _ _ _ dX0_valueAt_30 hP hD hS
  clear hM
  have hL_6 : ∀ (n : Nat) (z_6 : Int32 × Int64), it (b_X0_valueAt_6 p1 a_t_coefficients) n z_6 = some r_6 → ∀ (H : Heap) (locs : List Loc) (ls : Array Slot), va_P (gD g) vwCl [ob h_t 0 [.ref h_t_coefficients, .ref h_t_work], aJ g h_t_coefficients 19 a_t_coefficients] H → va_D A [ob h_t 0 [.ref h_t_coefficients, .ref h_t_work], aJ g h_t_coefficients 19 a_t_coefficients] → va_S A s.heap H locs → lv_has ls 6 [(5, .int z_6.1), (3, .long z_6.2), (0, .ref h_t), (1, .long p1)] → W p l e (rmv 0 0) s m args below meth c H locs 0 0 Q (F0 m 6 ls []) := by
    intro n
    induction n with
    | zero => intro z_6 hn; exact (it_zero hn).elim
    | succ n ih =>
      intro z_6 hn H locs ls hP hD hS hl
      obtain ⟨x, hM, hX⟩ := it_succ hn
      clear hn
      refine lv_iload hx hb dX0_valueAt_6 (lv_at hl 0 rfl) ?_
      refine lv_if_lt (tgt := 29) hx hb dX0_valueAt_8 (by decide) (fun c_8 => ?_) (fun c_8 => ?_)
      · have hM := if_t hM c_8
        obtain rfl := Option.some.inj hM
        obtain rfl : _ = r_6 := hX
        exact hE_6_0 _ _ _ hP hD hS (lv_sub hl [1] rfl)
      · have hM := if_f hM c_8
        refine lv_lload_n hx hb dX0_valueAt_11 rfl (lv_at hl 1 rfl) ?_
        refine lv_lload_n hx hb dX0_valueAt_12 rfl (lv_at hl 3 rfl) ?_
        refine lv_lmul hx hb dX0_valueAt_13 ?_
        refine lv_aload_n hx hb dX0_valueAt_14 rfl (lv_at hl 2 rfl) ?_
        refine w_get cx hP 0 0 0 rfl rfl (by decide) m_179 rfl rfl dX0_valueAt_15 ?_
        refine lv_iload hx hb dX0_valueAt_18 (lv_at hl 0 rfl) ?_
        obtain ⟨g_20, hM⟩ := gd_some hM
        refine w_lald cx hP 1 rfl g_20 dX0_valueAt_20 ?_
        refine lv_ladd hx hb dX0_valueAt_21 ?_
        refine lv_topl (fun x_22 ex_22 => ?_)
        have hM := nm_some hM x_22 ex_22
        refine lv_lstore_n (lv' := [(3, .long x_22), (5, .int z_6.1), (0, .ref h_t), (1, .long p1)]) hx hb dX0_valueAt_22 rfl hl (by decide) rfl (fun ls hl => ?_)
        obtain ⟨x_23, ex_23⟩ : ∃ q : Int32, q = z_6.1 + (nI 4294967295) := ⟨_, rfl⟩
        have hM := nm_some hM x_23 ex_23
        refine lv_iinc (v := x_23) (lv' := [(5, .int x_23), (3, .long x_22), (0, .ref h_t), (1, .long p1)]) hx hb dX0_valueAt_23 hl (k := 1) rfl ((congrArg (fun q => z_6.1 + q) (show Int32.ofInt (-1) = (nI 4294967295) by decide)).trans ex_23.symm) (by decide) rfl (fun ls hl => ?_)
        refine lv_goto (tgt := 6) hx hb dX0_valueAt_26 (by decide) ?_
        obtain rfl := Option.some.inj hM
        exact ih _ hX _ _ _ hP hD hS (lv_sub hl [0, 1, 2, 3] rfl)
  exact hL_6 n _ hn _ _ _ hP hD hS (lv_sub hl [0, 1, 2, 3] rfl)
noncomputable def b_X0_coefficientAroundOne_25 (z_17 : Int32 × (Nat → Int64)) : Int32 × (Nat → Int64) → Option ((Int32 × (Nat → Int64)) ⊕ ((Nat → Int64))) := fun z_25 =>
  if z_25.1 < z_17.1 then some (.inr z_25.2) else gd (inb z_25.1 19) (gd (inb (z_25.1 + (nI 1)) 19) (gd (inb z_25.1 19) (nm (z_25.1 + (nI 4294967295)) (fun (x_47 : Int32) => some (.inl (x_47, vp_updL z_25.2 z_25.1.toNatClampNeg ((z_25.2 z_25.1.toNatClampNeg) + (z_25.2 (z_25.1 + (nI 1)).toNatClampNeg))))))))
noncomputable def b_X0_coefficientAroundOne_17 (p1 : Int32) : Int32 × (Nat → Int64) → Option ((Int32 × (Nat → Int64)) ⊕ ((Nat → Int64))) := fun z_17 =>
  if p1 < z_17.1 then some (.inr z_17.2) else bd (wh (b_X0_coefficientAroundOne_25 z_17) ((nI 17), z_17.2)) (fun (r_25 : Nat → Int64) => some (.inl (z_17.1 + (nI 1), r_25)))
noncomputable def f_X0_coefficientAroundOne (p1 : Int32) (a_t_coefficients : Nat → Int64) (a_t_work : Nat → Int64) : Option (Int64 × (Nat → Int64)) :=
  bd (wh (b_X0_coefficientAroundOne_17 p1) ((nI 0), va_cpy a_t_coefficients a_t_work 0 0 19)) (fun (r_17 : Nat → Int64) => gd (inb p1 19) (some (r_17 p1.toNatClampNeg, r_17)))
theorem yq_X0_coefficientAroundOne : yq yX0_coefficientAroundOne 1 := by unfold yq; decide +kernel
set_option maxHeartbeats 4000000 in
set_option maxRecDepth 100000 in
theorem c_X0_coefficientAroundOne (g : GG) (l : Launch) (h_t : Nat) (h_t_coefficients : Nat) (h_t_work : Nat) (p1 : Int32) (a_t_coefficients : Nat → Int64) (a_t_work : Nat → Int64) {R : Int64 × (Nat → Int64)} (hM : f_X0_coefficientAroundOne p1 a_t_coefficients a_t_work = some R) : CT g l yX0_coefficientAroundOne cX0_coefficientAroundOne 4 (some .long) 1 60 [.ref h_t, .int p1] [ob h_t 0 [.ref h_t_coefficients, .ref h_t_work], aJ g h_t_coefficients 19 a_t_coefficients, aJ g h_t_work 19 a_t_work] [ob h_t 0 [.ref h_t_coefficients, .ref h_t_work], aJ g h_t_coefficients 19 a_t_coefficients, aJ g h_t_work 19 R.2] (some (.long R.1)) := by
  refine ct_l (by decide +kernel) (Nat.le_of_ble_eq_true rfl) ?_
  intro p e s m args below meth c Q A ls cx hP hD hA hl hfin
  obtain ⟨hx, hb, hml, hown, hts, hK⟩ := id cx
  have hl : lv_has ls 4 [(0, .ref h_t), (1, .int p1)] := hl
  have hS : va_S A s.heap s.heap [] := va_S.rf
  refine lv_aload_n hx hb dX0_coefficientAroundOne_0 rfl (lv_at hl 0 rfl) ?_
  refine w_get cx hP 0 0 0 rfl rfl (by decide) m_179 rfl rfl dX0_coefficientAroundOne_1 ?_
  refine lv_iconst (v := (nI 0)) hx hb dX0_coefficientAroundOne_4 (by decide) ?_
  refine lv_aload_n hx hb dX0_coefficientAroundOne_5 rfl (lv_at hl 0 rfl) ?_
  refine w_get cx hP 0 0 1 rfl rfl (by decide) m_181 rfl rfl dX0_coefficientAroundOne_6 ?_
  refine lv_iconst (v := (nI 0)) hx hb dX0_coefficientAroundOne_9 (by decide) ?_
  refine lv_bipush (v := (nI 19)) hx hb dX0_coefficientAroundOne_10 (by decide) ?_
  refine va_copyl hx hb (cx.2.2.1.trans hl.1.symm) hown (hts _ m_582) (hts _ m_549) (hts _ m_548) (hts _ m_28) cx.2.2.2.2.2.1 hP hD hS 1 2 1 1 rfl rfl rfl rfl rfl (by decide) (by decide) (by decide) (by decide) (by decide) (fun _ _ => rfl) (by decide) (by decide) dX0_coefficientAroundOne_12 (fun H locs hP hD hS => ?_)
  have hP : va_P (gD g) vwCl [ob h_t 0 [.ref h_t_coefficients, .ref h_t_work], aJ g h_t_coefficients 19 a_t_coefficients, aJ g h_t_work 19 (va_cpy a_t_coefficients a_t_work 0 0 19)] H := hP
  have hD : va_D A [ob h_t 0 [.ref h_t_coefficients, .ref h_t_work], aJ g h_t_coefficients 19 a_t_coefficients, aJ g h_t_work 19 (va_cpy a_t_coefficients a_t_work 0 0 19)] := hD
  refine lv_iconst (v := (nI 0)) hx hb dX0_coefficientAroundOne_15 (by decide) ?_
  refine lv_istore_n (lv' := [(2, .int (nI 0)), (0, .ref h_t), (1, .int p1)]) hx hb dX0_coefficientAroundOne_16 rfl hl (by decide) rfl (fun ls hl => ?_)
  obtain ⟨r_17, hw, hM⟩ := bd_some hM
  obtain ⟨n, hn⟩ := wh_some hw
  clear hw
  have hE_17_0 : ∀ (H : Heap) (locs : List Loc) (ls : Array Slot), va_P (gD g) vwCl [ob h_t 0 [.ref h_t_coefficients, .ref h_t_work], aJ g h_t_coefficients 19 a_t_coefficients, aJ g h_t_work 19 r_17] H → va_D A [ob h_t 0 [.ref h_t_coefficients, .ref h_t_work], aJ g h_t_coefficients 19 a_t_coefficients, aJ g h_t_work 19 r_17] → va_S A s.heap H locs → lv_has ls 4 [(0, .ref h_t), (1, .int p1)] → W p l e (rmv 1 60) s m args below meth c H locs 0 0 Q (F0 m 59 ls []) := by
    intro H locs ls hP hD hS hl
    refine lv_aload_n hx hb dX0_coefficientAroundOne_59 rfl (lv_at hl 0 rfl) ?_
    refine w_get cx hP 0 0 1 rfl rfl (by decide) m_181 rfl rfl dX0_coefficientAroundOne_60 ?_
    refine lv_iload_n hx hb dX0_coefficientAroundOne_63 rfl (lv_at hl 1 rfl) ?_
    obtain ⟨g_64, hM⟩ := gd_some hM
    refine w_lald cx hP 2 rfl g_64 dX0_coefficientAroundOne_64 ?_
    obtain rfl := Option.some.inj hM
    exact hfin 65 _ _ _ dX0_coefficientAroundOne_65 hP hD hS
  clear hM
  have hL_17 : ∀ (n : Nat) (z_17 : Int32 × (Nat → Int64)), it (b_X0_coefficientAroundOne_17 p1) n z_17 = some r_17 → ∀ (H : Heap) (locs : List Loc) (ls : Array Slot), va_P (gD g) vwCl [ob h_t 0 [.ref h_t_coefficients, .ref h_t_work], aJ g h_t_coefficients 19 a_t_coefficients, aJ g h_t_work 19 z_17.2] H → va_D A [ob h_t 0 [.ref h_t_coefficients, .ref h_t_work], aJ g h_t_coefficients 19 a_t_coefficients, aJ g h_t_work 19 z_17.2] → va_S A s.heap H locs → lv_has ls 4 [(2, .int z_17.1), (0, .ref h_t), (1, .int p1)] → W p l e (rmv 1 60) s m args below meth c H locs 0 0 Q (F0 m 17 ls []) := by
    intro n
    induction n with
    | zero => intro z_17 hn; exact (it_zero hn).elim
    | succ n ih =>
      intro z_17 hn H locs ls hP hD hS hl
      obtain ⟨x, hM, hX⟩ := it_succ hn
      clear hn
      refine lv_iload_n hx hb dX0_coefficientAroundOne_17 rfl (lv_at hl 0 rfl) ?_
      refine lv_iload_n hx hb dX0_coefficientAroundOne_18 rfl (lv_at hl 2 rfl) ?_
      refine lv_icmp_gt (tgt := 59) hx hb dX0_coefficientAroundOne_19 (by decide) (fun c_19 => ?_) (fun c_19 => ?_)
      · have hM := if_t hM c_19
        obtain rfl := Option.some.inj hM
        obtain rfl : _ = r_17 := hX
        exact hE_17_0 _ _ _ hP hD hS (lv_sub hl [1, 2] rfl)
      · have hM := if_f hM c_19
        refine lv_bipush (v := (nI 17)) hx hb dX0_coefficientAroundOne_22 (by decide) ?_
        refine lv_istore_n (lv' := [(3, .int (nI 17)), (2, .int z_17.1), (0, .ref h_t), (1, .int p1)]) hx hb dX0_coefficientAroundOne_24 rfl hl (by decide) rfl (fun ls hl => ?_)
        obtain ⟨r_25, hw, hM⟩ := bd_some hM
        obtain ⟨n, hn⟩ := wh_some hw
        clear hw
        have hE_25_0 : ∀ (H : Heap) (locs : List Loc) (ls : Array Slot), va_P (gD g) vwCl [ob h_t 0 [.ref h_t_coefficients, .ref h_t_work], aJ g h_t_coefficients 19 a_t_coefficients, aJ g h_t_work 19 r_25] H → va_D A [ob h_t 0 [.ref h_t_coefficients, .ref h_t_work], aJ g h_t_coefficients 19 a_t_coefficients, aJ g h_t_work 19 r_25] → va_S A s.heap H locs → lv_has ls 4 [(2, .int z_17.1), (0, .ref h_t), (1, .int p1)] → W p l e (rmv 1 60) s m args below meth c H locs 0 0 Q (F0 m 53 ls []) := by
          intro H locs ls hP hD hS hl
          refine lv_iinc (v := z_17.1 + (nI 1)) (lv' := [(2, .int (z_17.1 + (nI 1))), (0, .ref h_t), (1, .int p1)]) hx hb dX0_coefficientAroundOne_53 hl (k := 0) rfl (congrArg (fun q => z_17.1 + q) (show Int32.ofInt (1) = (nI 1) by decide)) (by decide) rfl (fun ls hl => ?_)
          refine lv_goto (tgt := 17) hx hb dX0_coefficientAroundOne_56 (by decide) ?_
          obtain rfl := Option.some.inj hM
          exact ih _ hX _ _ _ hP hD hS (lv_sub hl [0, 1, 2] rfl)
        clear hM
        have hL_25 : ∀ (n : Nat) (z_25 : Int32 × (Nat → Int64)), it (b_X0_coefficientAroundOne_25 z_17) n z_25 = some r_25 → ∀ (H : Heap) (locs : List Loc) (ls : Array Slot), va_P (gD g) vwCl [ob h_t 0 [.ref h_t_coefficients, .ref h_t_work], aJ g h_t_coefficients 19 a_t_coefficients, aJ g h_t_work 19 z_25.2] H → va_D A [ob h_t 0 [.ref h_t_coefficients, .ref h_t_work], aJ g h_t_coefficients 19 a_t_coefficients, aJ g h_t_work 19 z_25.2] → va_S A s.heap H locs → lv_has ls 4 [(3, .int z_25.1), (2, .int z_17.1), (0, .ref h_t), (1, .int p1)] → W p l e (rmv 1 60) s m args below meth c H locs 0 0 Q (F0 m 25 ls []) := by
          intro n
          induction n with
          | zero => intro z_25 hn; exact (it_zero hn).elim
          | succ n ih =>
            intro z_25 hn H locs ls hP hD hS hl
            obtain ⟨x, hM, hX⟩ := it_succ hn
            clear hn
            refine lv_iload_n hx hb dX0_coefficientAroundOne_25 rfl (lv_at hl 0 rfl) ?_
            refine lv_iload_n hx hb dX0_coefficientAroundOne_26 rfl (lv_at hl 1 rfl) ?_
            refine lv_icmp_lt (tgt := 53) hx hb dX0_coefficientAroundOne_27 (by decide) (fun c_27 => ?_) (fun c_27 => ?_)
            · have hM := if_t hM c_27
              obtain rfl := Option.some.inj hM
              obtain rfl : _ = r_25 := hX
              exact hE_25_0 _ _ _ hP hD hS (lv_sub hl [1, 2, 3] rfl)
            · have hM := if_f hM c_27
              refine lv_aload_n hx hb dX0_coefficientAroundOne_30 rfl (lv_at hl 2 rfl) ?_
              refine w_get cx hP 0 0 1 rfl rfl (by decide) m_181 rfl rfl dX0_coefficientAroundOne_31 ?_
              refine lv_iload_n hx hb dX0_coefficientAroundOne_34 rfl (lv_at hl 0 rfl) ?_
              refine lv_dup2_11 hx hb dX0_coefficientAroundOne_35 rfl rfl ?_
              obtain ⟨g_36, hM⟩ := gd_some hM
              refine w_lald cx hP 2 rfl g_36 dX0_coefficientAroundOne_36 ?_
              refine lv_aload_n hx hb dX0_coefficientAroundOne_37 rfl (lv_at hl 2 rfl) ?_
              refine w_get cx hP 0 0 1 rfl rfl (by decide) m_181 rfl rfl dX0_coefficientAroundOne_38 ?_
              refine lv_iload_n hx hb dX0_coefficientAroundOne_41 rfl (lv_at hl 0 rfl) ?_
              refine lv_iconst (v := (nI 1)) hx hb dX0_coefficientAroundOne_42 (by decide) ?_
              refine lv_iadd hx hb dX0_coefficientAroundOne_43 ?_
              obtain ⟨g_44, hM⟩ := gd_some hM
              refine w_lald cx hP 2 rfl g_44 dX0_coefficientAroundOne_44 ?_
              refine lv_ladd hx hb dX0_coefficientAroundOne_45 ?_
              obtain ⟨g_46, hM⟩ := gd_some hM
              refine w_last cx hP hD hS 2 rfl g_46 dX0_coefficientAroundOne_46 [ob h_t 0 [.ref h_t_coefficients, .ref h_t_work], aJ g h_t_coefficients 19 a_t_coefficients, aJ g h_t_work 19 (vp_updL z_25.2 z_25.1.toNatClampNeg ((z_25.2 z_25.1.toNatClampNeg) + (z_25.2 (z_25.1 + (nI 1)).toNatClampNeg)))] rfl (fun H locs hP hD hS => ?_)
              obtain ⟨x_47, ex_47⟩ : ∃ q : Int32, q = z_25.1 + (nI 4294967295) := ⟨_, rfl⟩
              have hM := nm_some hM x_47 ex_47
              refine lv_iinc (v := x_47) (lv' := [(3, .int x_47), (2, .int z_17.1), (0, .ref h_t), (1, .int p1)]) hx hb dX0_coefficientAroundOne_47 hl (k := 0) rfl ((congrArg (fun q => z_25.1 + q) (show Int32.ofInt (-1) = (nI 4294967295) by decide)).trans ex_47.symm) (by decide) rfl (fun ls hl => ?_)
              refine lv_goto (tgt := 25) hx hb dX0_coefficientAroundOne_50 (by decide) ?_
              obtain rfl := Option.some.inj hM
              exact ih _ hX _ _ _ hP hD hS (lv_sub hl [0, 1, 2, 3] rfl)
        exact hL_25 n _ hn _ _ _ hP hD hS (lv_sub hl [0, 1, 2, 3] rfl)
  exact hL_17 n _ hn _ _ _ hP hD hS (lv_sub hl [0, 1, 2] rfl)
noncomputable def b_X0_highestPower_3 (a_t_coefficients : Nat → Int64) : Int32 → Option ((Int32) ⊕ ((Int32) ⊕ (Unit))) := fun z_3 =>
  if z_3 ≤ 0 then some (.inr (.inr ())) else gd (inb z_3 19) (if (lg_cmp (a_t_coefficients z_3.toNatClampNeg) (0 : Int64)) = 0 then nm (z_3 + (nI 4294967295)) (fun (x_20 : Int32) => some (.inl x_20)) else some (.inr (.inl z_3)))
noncomputable def f_X0_highestPower (a_t_coefficients : Nat → Int64) : Option (Int32) :=
  bd (wh (b_X0_highestPower_3 a_t_coefficients) (nI 18)) (fun (r_3 : (Int32) ⊕ (Unit)) => ex2 r_3 (fun (r_3_0 : Int32) => some r_3_0) (fun (r_3_1 : Unit) => some (nI 0)))
theorem yq_X0_highestPower : yq yX0_highestPower 0 := by unfold yq; decide +kernel
set_option maxHeartbeats 4000000 in
set_option maxRecDepth 100000 in
theorem c_X0_highestPower (g : GG) (l : Launch) (h_t : Nat) (h_t_coefficients : Nat) (h_t_work : Nat) (a_t_coefficients : Nat → Int64) {R : Int32} (hM : f_X0_highestPower a_t_coefficients = some R) : CT g l yX0_highestPower cX0_highestPower 2 (some .int) 0 0 [.ref h_t] [ob h_t 0 [.ref h_t_coefficients, .ref h_t_work], aJ g h_t_coefficients 19 a_t_coefficients] [ob h_t 0 [.ref h_t_coefficients, .ref h_t_work], aJ g h_t_coefficients 19 a_t_coefficients] (some (.int R)) := by
  refine ct_i (by decide +kernel) (Nat.le_of_ble_eq_true rfl) ?_
  intro p e s m args below meth c Q A ls cx hP hD hA hl hfin
  obtain ⟨hx, hb, hml, hown, hts, hK⟩ := id cx
  have hl : lv_has ls 2 [(0, .ref h_t)] := hl
  have hS : va_S A s.heap s.heap [] := va_S.rf
  refine lv_bipush (v := (nI 18)) hx hb dX0_highestPower_0 (by decide) ?_
  refine lv_istore_n (lv' := [(1, .int (nI 18)), (0, .ref h_t)]) hx hb dX0_highestPower_2 rfl hl (by decide) rfl (fun ls hl => ?_)
  obtain ⟨r_3, hw, hM⟩ := bd_some hM
  obtain ⟨n, hn⟩ := wh_some hw
  clear hw
  have hE_3_0 : ∀ (r_3_0 : Int32), r_3 = .inl r_3_0 → ∀ (H : Heap) (locs : List Loc) (ls : Array Slot), va_P (gD g) vwCl [ob h_t 0 [.ref h_t_coefficients, .ref h_t_work], aJ g h_t_coefficients 19 a_t_coefficients] H → va_D A [ob h_t 0 [.ref h_t_coefficients, .ref h_t_work], aJ g h_t_coefficients 19 a_t_coefficients] → va_S A s.heap H locs → lv_has ls 2 [(1, .int r_3_0)] → W p l e (rmv 0 0) s m args below meth c H locs 0 0 Q (F0 m 18 ls []) := by
    intro r_3_0 hr H locs ls hP hD hS hl
    have hM := ex2_0 hM hr
    refine lv_iload_n hx hb dX0_highestPower_18 rfl (lv_at hl 0 rfl) ?_
    obtain rfl := Option.some.inj hM
    exact hfin 19 _ _ _ dX0_highestPower_19 hP hD hS
  have hE_3_1 : ∀ (r_3_1 : Unit), r_3 = .inr r_3_1 → ∀ (H : Heap) (locs : List Loc) (ls : Array Slot), va_P (gD g) vwCl [ob h_t 0 [.ref h_t_coefficients, .ref h_t_work], aJ g h_t_coefficients 19 a_t_coefficients] H → va_D A [ob h_t 0 [.ref h_t_coefficients, .ref h_t_work], aJ g h_t_coefficients 19 a_t_coefficients] → va_S A s.heap H locs → lv_has ls 2 [] → W p l e (rmv 0 0) s m args below meth c H locs 0 0 Q (F0 m 26 ls []) := by
    intro r_3_1 hr H locs ls hP hD hS hl
    have hM := ex2_1 hM hr
    refine lv_iconst (v := (nI 0)) hx hb dX0_highestPower_26 (by decide) ?_
    obtain rfl := Option.some.inj hM
    exact hfin 27 _ _ _ dX0_highestPower_27 hP hD hS
  clear hM
  have hL_3 : ∀ (n : Nat) (z_3 : Int32), it (b_X0_highestPower_3 a_t_coefficients) n z_3 = some r_3 → ∀ (H : Heap) (locs : List Loc) (ls : Array Slot), va_P (gD g) vwCl [ob h_t 0 [.ref h_t_coefficients, .ref h_t_work], aJ g h_t_coefficients 19 a_t_coefficients] H → va_D A [ob h_t 0 [.ref h_t_coefficients, .ref h_t_work], aJ g h_t_coefficients 19 a_t_coefficients] → va_S A s.heap H locs → lv_has ls 2 [(1, .int z_3), (0, .ref h_t)] → W p l e (rmv 0 0) s m args below meth c H locs 0 0 Q (F0 m 3 ls []) := by
    intro n
    induction n with
    | zero => intro z_3 hn; exact (it_zero hn).elim
    | succ n ih =>
      intro z_3 hn H locs ls hP hD hS hl
      obtain ⟨x, hM, hX⟩ := it_succ hn
      clear hn
      refine lv_iload_n hx hb dX0_highestPower_3 rfl (lv_at hl 0 rfl) ?_
      refine lv_if_le (tgt := 26) hx hb dX0_highestPower_4 (by decide) (fun c_4 => ?_) (fun c_4 => ?_)
      · have hM := if_t hM c_4
        obtain rfl := Option.some.inj hM
        obtain rfl : _ = r_3 := hX
        exact hE_3_1 _ rfl _ _ _ hP hD hS (lv_sub hl [] rfl)
      · have hM := if_f hM c_4
        refine lv_aload_n hx hb dX0_highestPower_7 rfl (lv_at hl 1 rfl) ?_
        refine w_get cx hP 0 0 0 rfl rfl (by decide) m_179 rfl rfl dX0_highestPower_8 ?_
        refine lv_iload_n hx hb dX0_highestPower_11 rfl (lv_at hl 0 rfl) ?_
        obtain ⟨g_12, hM⟩ := gd_some hM
        refine w_lald cx hP 1 rfl g_12 dX0_highestPower_12 ?_
        refine lv_lconst (v := (0 : Int64)) hx hb dX0_highestPower_13 (by decide) ?_
        refine W.lcmp hx hb dX0_highestPower_14 ?_
        refine lv_if_eq (tgt := 20) hx hb dX0_highestPower_15 (by decide) (fun c_15 => ?_) (fun c_15 => ?_)
        · have hM := if_t hM c_15
          obtain ⟨x_20, ex_20⟩ : ∃ q : Int32, q = z_3 + (nI 4294967295) := ⟨_, rfl⟩
          have hM := nm_some hM x_20 ex_20
          refine lv_iinc (v := x_20) (lv' := [(1, .int x_20), (0, .ref h_t)]) hx hb dX0_highestPower_20 hl (k := 0) rfl ((congrArg (fun q => z_3 + q) (show Int32.ofInt (-1) = (nI 4294967295) by decide)).trans ex_20.symm) (by decide) rfl (fun ls hl => ?_)
          refine lv_goto (tgt := 3) hx hb dX0_highestPower_23 (by decide) ?_
          obtain rfl := Option.some.inj hM
          exact ih _ hX _ _ _ hP hD hS (lv_sub hl [0, 1] rfl)
        · have hM := if_f hM c_15
          obtain rfl := Option.some.inj hM
          obtain rfl : _ = r_3 := hX
          exact hE_3_0 _ rfl _ _ _ hP hD hS (lv_sub hl [0] rfl)
  exact hL_3 n _ hn _ _ _ hP hD hS (lv_sub hl [0, 1] rfl)
noncomputable def b_X6_turnIntoBass_54 : Int32 × (Nat → Int64) → Option ((Int32 × (Nat → Int64)) ⊕ ((Nat → Int64))) := fun z_54 =>
  if (nI 18) < z_54.1 then some (.inr z_54.2) else gd (inb z_54.1 19) (gd (inb (z_54.1 - (nI 2)) 19) (gd (inb z_54.1 19) (some (.inl (z_54.1 + (nI 1), vp_updL z_54.2 z_54.1.toNatClampNeg ((z_54.2 z_54.1.toNatClampNeg) + (z_54.2 (z_54.1 - (nI 2)).toNatClampNeg)))))))
noncomputable def b_X6_turnIntoBass_46 (p1 : Int32) : Int32 × (Nat → Int64) → Option ((Int32 × (Nat → Int64)) ⊕ ((Nat → Int64))) := fun z_46 =>
  if (-p1) ≤ z_46.1 then some (.inr z_46.2) else bd (wh b_X6_turnIntoBass_54 ((nI 2), z_46.2)) (fun (r_54 : Nat → Int64) => some (.inl (z_46.1 + (nI 1), r_54)))
noncomputable def b_X6_turnIntoBass_10 : Int32 × (Nat → Int64) → Option ((Int32 × (Nat → Int64)) ⊕ ((Nat → Int64))) := fun z_10 =>
  if z_10.1 < (nI 2) then some (.inr z_10.2) else gd (inb z_10.1 19) (gd (inb (z_10.1 - (nI 2)) 19) (gd (inb z_10.1 19) (nm (z_10.1 + (nI 4294967295)) (fun (x_32 : Int32) => some (.inl (x_32, vp_updL z_10.2 z_10.1.toNatClampNeg ((z_10.2 z_10.1.toNatClampNeg) - (z_10.2 (z_10.1 - (nI 2)).toNatClampNeg))))))))
noncomputable def b_X6_turnIntoBass_2 (p1 : Int32) : Int32 × (Nat → Int64) → Option ((Int32 × (Nat → Int64)) ⊕ ((Nat → Int64))) := fun z_2 =>
  if p1 ≤ z_2.1 then some (.inr z_2.2) else bd (wh b_X6_turnIntoBass_10 ((nI 18), z_2.2)) (fun (r_10 : Nat → Int64) => some (.inl (z_2.1 + (nI 1), r_10)))
noncomputable def f_X6_turnIntoBass (p1 : Int32) (a_t_coefficients : Nat → Int64) : Option (Nat → Int64) :=
  bd (wh (b_X6_turnIntoBass_2 p1) ((nI 0), a_t_coefficients)) (fun (r_2 : Nat → Int64) => bd (wh (b_X6_turnIntoBass_46 p1) ((nI 0), r_2)) (fun (r_46 : Nat → Int64) => some r_46))
theorem yq_X6_turnIntoBass : yq yX6_turnIntoBass 1 := by unfold yq; decide +kernel
set_option maxHeartbeats 4000000 in
set_option maxRecDepth 100000 in
theorem c_X6_turnIntoBass (g : GG) (l : Launch) (h_t : Nat) (h_t_coefficients : Nat) (h_t_minors : Nat) (p1 : Int32) (a_t_coefficients : Nat → Int64) {R : Nat → Int64} (hM : f_X6_turnIntoBass p1 a_t_coefficients = some R) : CT g l yX6_turnIntoBass cX6_turnIntoBass 4 none 0 0 [.ref h_t, .int p1] [ob h_t 6 [.ref h_t_coefficients, .ref h_t_minors], aJ g h_t_coefficients 19 a_t_coefficients] [ob h_t 6 [.ref h_t_coefficients, .ref h_t_minors], aJ g h_t_coefficients 19 R] none := by
  refine ct_v (by decide +kernel) (Nat.le_of_ble_eq_true rfl) ?_
  intro p e s m args below meth c Q A ls cx hP hD hA hl hfin
  obtain ⟨hx, hb, hml, hown, hts, hK⟩ := id cx
  have hl : lv_has ls 4 [(0, .ref h_t), (1, .int p1)] := hl
  have hS : va_S A s.heap s.heap [] := va_S.rf
  refine lv_iconst (v := (nI 0)) hx hb dX6_turnIntoBass_0 (by decide) ?_
  refine lv_istore_n (lv' := [(2, .int (nI 0)), (0, .ref h_t), (1, .int p1)]) hx hb dX6_turnIntoBass_1 rfl hl (by decide) rfl (fun ls hl => ?_)
  obtain ⟨r_2, hw, hM⟩ := bd_some hM
  obtain ⟨n, hn⟩ := wh_some hw
  clear hw
  have hE_2_0 : ∀ (H : Heap) (locs : List Loc) (ls : Array Slot), va_P (gD g) vwCl [ob h_t 6 [.ref h_t_coefficients, .ref h_t_minors], aJ g h_t_coefficients 19 r_2] H → va_D A [ob h_t 6 [.ref h_t_coefficients, .ref h_t_minors], aJ g h_t_coefficients 19 r_2] → va_S A s.heap H locs → lv_has ls 4 [(0, .ref h_t), (1, .int p1)] → W p l e (rmv 0 0) s m args below meth c H locs 0 0 Q (F0 m 44 ls []) := by
    intro H locs ls hP hD hS hl
    refine lv_iconst (v := (nI 0)) hx hb dX6_turnIntoBass_44 (by decide) ?_
    refine lv_istore_n (lv' := [(2, .int (nI 0)), (0, .ref h_t), (1, .int p1)]) hx hb dX6_turnIntoBass_45 rfl hl (by decide) rfl (fun ls hl => ?_)
    obtain ⟨r_46, hw, hM⟩ := bd_some hM
    obtain ⟨n, hn⟩ := wh_some hw
    clear hw
    have hE_46_0 : ∀ (H : Heap) (locs : List Loc) (ls : Array Slot), va_P (gD g) vwCl [ob h_t 6 [.ref h_t_coefficients, .ref h_t_minors], aJ g h_t_coefficients 19 r_46] H → va_D A [ob h_t 6 [.ref h_t_coefficients, .ref h_t_minors], aJ g h_t_coefficients 19 r_46] → va_S A s.heap H locs → lv_has ls 4 [] → W p l e (rmv 0 0) s m args below meth c H locs 0 0 Q (F0 m 89 ls []) := by
      intro H locs ls hP hD hS hl
      obtain rfl := Option.some.inj hM
      exact hfin 89 _ _ _ dX6_turnIntoBass_89 hP hD hS
    clear hM
    have hL_46 : ∀ (n : Nat) (z_46 : Int32 × (Nat → Int64)), it (b_X6_turnIntoBass_46 p1) n z_46 = some r_46 → ∀ (H : Heap) (locs : List Loc) (ls : Array Slot), va_P (gD g) vwCl [ob h_t 6 [.ref h_t_coefficients, .ref h_t_minors], aJ g h_t_coefficients 19 z_46.2] H → va_D A [ob h_t 6 [.ref h_t_coefficients, .ref h_t_minors], aJ g h_t_coefficients 19 z_46.2] → va_S A s.heap H locs → lv_has ls 4 [(2, .int z_46.1), (0, .ref h_t), (1, .int p1)] → W p l e (rmv 0 0) s m args below meth c H locs 0 0 Q (F0 m 46 ls []) := by
      intro n
      induction n with
      | zero => intro z_46 hn; exact (it_zero hn).elim
      | succ n ih =>
        intro z_46 hn H locs ls hP hD hS hl
        obtain ⟨x, hM, hX⟩ := it_succ hn
        clear hn
        refine lv_iload_n hx hb dX6_turnIntoBass_46 rfl (lv_at hl 0 rfl) ?_
        refine lv_iload_n hx hb dX6_turnIntoBass_47 rfl (lv_at hl 2 rfl) ?_
        refine lv_ineg hx hb dX6_turnIntoBass_48 ?_
        refine lv_icmp_ge (tgt := 89) hx hb dX6_turnIntoBass_49 (by decide) (fun c_49 => ?_) (fun c_49 => ?_)
        · have hM := if_t hM c_49
          obtain rfl := Option.some.inj hM
          obtain rfl : _ = r_46 := hX
          exact hE_46_0 _ _ _ hP hD hS (lv_sub hl [] rfl)
        · have hM := if_f hM c_49
          refine lv_iconst (v := (nI 2)) hx hb dX6_turnIntoBass_52 (by decide) ?_
          refine lv_istore_n (lv' := [(3, .int (nI 2)), (2, .int z_46.1), (0, .ref h_t), (1, .int p1)]) hx hb dX6_turnIntoBass_53 rfl hl (by decide) rfl (fun ls hl => ?_)
          obtain ⟨r_54, hw, hM⟩ := bd_some hM
          obtain ⟨n, hn⟩ := wh_some hw
          clear hw
          have hE_54_0 : ∀ (H : Heap) (locs : List Loc) (ls : Array Slot), va_P (gD g) vwCl [ob h_t 6 [.ref h_t_coefficients, .ref h_t_minors], aJ g h_t_coefficients 19 r_54] H → va_D A [ob h_t 6 [.ref h_t_coefficients, .ref h_t_minors], aJ g h_t_coefficients 19 r_54] → va_S A s.heap H locs → lv_has ls 4 [(2, .int z_46.1), (0, .ref h_t), (1, .int p1)] → W p l e (rmv 0 0) s m args below meth c H locs 0 0 Q (F0 m 83 ls []) := by
            intro H locs ls hP hD hS hl
            refine lv_iinc (v := z_46.1 + (nI 1)) (lv' := [(2, .int (z_46.1 + (nI 1))), (0, .ref h_t), (1, .int p1)]) hx hb dX6_turnIntoBass_83 hl (k := 0) rfl (congrArg (fun q => z_46.1 + q) (show Int32.ofInt (1) = (nI 1) by decide)) (by decide) rfl (fun ls hl => ?_)
            refine lv_goto (tgt := 46) hx hb dX6_turnIntoBass_86 (by decide) ?_
            obtain rfl := Option.some.inj hM
            exact ih _ hX _ _ _ hP hD hS (lv_sub hl [0, 1, 2] rfl)
          clear hM
          have hL_54 : ∀ (n : Nat) (z_54 : Int32 × (Nat → Int64)), it b_X6_turnIntoBass_54 n z_54 = some r_54 → ∀ (H : Heap) (locs : List Loc) (ls : Array Slot), va_P (gD g) vwCl [ob h_t 6 [.ref h_t_coefficients, .ref h_t_minors], aJ g h_t_coefficients 19 z_54.2] H → va_D A [ob h_t 6 [.ref h_t_coefficients, .ref h_t_minors], aJ g h_t_coefficients 19 z_54.2] → va_S A s.heap H locs → lv_has ls 4 [(3, .int z_54.1), (2, .int z_46.1), (0, .ref h_t), (1, .int p1)] → W p l e (rmv 0 0) s m args below meth c H locs 0 0 Q (F0 m 54 ls []) := by
            intro n
            induction n with
            | zero => intro z_54 hn; exact (it_zero hn).elim
            | succ n ih =>
              intro z_54 hn H locs ls hP hD hS hl
              obtain ⟨x, hM, hX⟩ := it_succ hn
              clear hn
              refine lv_iload_n hx hb dX6_turnIntoBass_54 rfl (lv_at hl 0 rfl) ?_
              refine lv_bipush (v := (nI 18)) hx hb dX6_turnIntoBass_55 (by decide) ?_
              refine lv_icmp_gt (tgt := 83) hx hb dX6_turnIntoBass_57 (by decide) (fun c_57 => ?_) (fun c_57 => ?_)
              · have hM := if_t hM c_57
                obtain rfl := Option.some.inj hM
                obtain rfl : _ = r_54 := hX
                exact hE_54_0 _ _ _ hP hD hS (lv_sub hl [1, 2, 3] rfl)
              · have hM := if_f hM c_57
                refine lv_aload_n hx hb dX6_turnIntoBass_60 rfl (lv_at hl 2 rfl) ?_
                refine w_get cx hP 0 6 0 rfl rfl (by decide) m_195 rfl rfl dX6_turnIntoBass_61 ?_
                refine lv_iload_n hx hb dX6_turnIntoBass_64 rfl (lv_at hl 0 rfl) ?_
                refine lv_dup2_11 hx hb dX6_turnIntoBass_65 rfl rfl ?_
                obtain ⟨g_66, hM⟩ := gd_some hM
                refine w_lald cx hP 1 rfl g_66 dX6_turnIntoBass_66 ?_
                refine lv_aload_n hx hb dX6_turnIntoBass_67 rfl (lv_at hl 2 rfl) ?_
                refine w_get cx hP 0 6 0 rfl rfl (by decide) m_195 rfl rfl dX6_turnIntoBass_68 ?_
                refine lv_iload_n hx hb dX6_turnIntoBass_71 rfl (lv_at hl 0 rfl) ?_
                refine lv_iconst (v := (nI 2)) hx hb dX6_turnIntoBass_72 (by decide) ?_
                refine lv_isub hx hb dX6_turnIntoBass_73 ?_
                obtain ⟨g_74, hM⟩ := gd_some hM
                refine w_lald cx hP 1 rfl g_74 dX6_turnIntoBass_74 ?_
                refine lv_ladd hx hb dX6_turnIntoBass_75 ?_
                obtain ⟨g_76, hM⟩ := gd_some hM
                refine w_last cx hP hD hS 1 rfl g_76 dX6_turnIntoBass_76 [ob h_t 6 [.ref h_t_coefficients, .ref h_t_minors], aJ g h_t_coefficients 19 (vp_updL z_54.2 z_54.1.toNatClampNeg ((z_54.2 z_54.1.toNatClampNeg) + (z_54.2 (z_54.1 - (nI 2)).toNatClampNeg)))] rfl (fun H locs hP hD hS => ?_)
                refine lv_iinc (v := z_54.1 + (nI 1)) (lv' := [(3, .int (z_54.1 + (nI 1))), (2, .int z_46.1), (0, .ref h_t), (1, .int p1)]) hx hb dX6_turnIntoBass_77 hl (k := 0) rfl (congrArg (fun q => z_54.1 + q) (show Int32.ofInt (1) = (nI 1) by decide)) (by decide) rfl (fun ls hl => ?_)
                refine lv_goto (tgt := 54) hx hb dX6_turnIntoBass_80 (by decide) ?_
                obtain rfl := Option.some.inj hM
                exact ih _ hX _ _ _ hP hD hS (lv_sub hl [0, 1, 2, 3] rfl)
          exact hL_54 n _ hn _ _ _ hP hD hS (lv_sub hl [0, 1, 2, 3] rfl)
    exact hL_46 n _ hn _ _ _ hP hD hS (lv_sub hl [0, 1, 2] rfl)
  clear hM
  have hL_2 : ∀ (n : Nat) (z_2 : Int32 × (Nat → Int64)), it (b_X6_turnIntoBass_2 p1) n z_2 = some r_2 → ∀ (H : Heap) (locs : List Loc) (ls : Array Slot), va_P (gD g) vwCl [ob h_t 6 [.ref h_t_coefficients, .ref h_t_minors], aJ g h_t_coefficients 19 z_2.2] H → va_D A [ob h_t 6 [.ref h_t_coefficients, .ref h_t_minors], aJ g h_t_coefficients 19 z_2.2] → va_S A s.heap H locs → lv_has ls 4 [(2, .int z_2.1), (0, .ref h_t), (1, .int p1)] → W p l e (rmv 0 0) s m args below meth c H locs 0 0 Q (F0 m 2 ls []) := by
    intro n
    induction n with
    | zero => intro z_2 hn; exact (it_zero hn).elim
    | succ n ih =>
      intro z_2 hn H locs ls hP hD hS hl
      obtain ⟨x, hM, hX⟩ := it_succ hn
      clear hn
      refine lv_iload_n hx hb dX6_turnIntoBass_2 rfl (lv_at hl 0 rfl) ?_
      refine lv_iload_n hx hb dX6_turnIntoBass_3 rfl (lv_at hl 2 rfl) ?_
      refine lv_icmp_ge (tgt := 44) hx hb dX6_turnIntoBass_4 (by decide) (fun c_4 => ?_) (fun c_4 => ?_)
      · have hM := if_t hM c_4
        obtain rfl := Option.some.inj hM
        obtain rfl : _ = r_2 := hX
        exact hE_2_0 _ _ _ hP hD hS (lv_sub hl [1, 2] rfl)
      · have hM := if_f hM c_4
        refine lv_bipush (v := (nI 18)) hx hb dX6_turnIntoBass_7 (by decide) ?_
        refine lv_istore_n (lv' := [(3, .int (nI 18)), (2, .int z_2.1), (0, .ref h_t), (1, .int p1)]) hx hb dX6_turnIntoBass_9 rfl hl (by decide) rfl (fun ls hl => ?_)
        obtain ⟨r_10, hw, hM⟩ := bd_some hM
        obtain ⟨n, hn⟩ := wh_some hw
        clear hw
        have hE_10_0 : ∀ (H : Heap) (locs : List Loc) (ls : Array Slot), va_P (gD g) vwCl [ob h_t 6 [.ref h_t_coefficients, .ref h_t_minors], aJ g h_t_coefficients 19 r_10] H → va_D A [ob h_t 6 [.ref h_t_coefficients, .ref h_t_minors], aJ g h_t_coefficients 19 r_10] → va_S A s.heap H locs → lv_has ls 4 [(2, .int z_2.1), (0, .ref h_t), (1, .int p1)] → W p l e (rmv 0 0) s m args below meth c H locs 0 0 Q (F0 m 38 ls []) := by
          intro H locs ls hP hD hS hl
          refine lv_iinc (v := z_2.1 + (nI 1)) (lv' := [(2, .int (z_2.1 + (nI 1))), (0, .ref h_t), (1, .int p1)]) hx hb dX6_turnIntoBass_38 hl (k := 0) rfl (congrArg (fun q => z_2.1 + q) (show Int32.ofInt (1) = (nI 1) by decide)) (by decide) rfl (fun ls hl => ?_)
          refine lv_goto (tgt := 2) hx hb dX6_turnIntoBass_41 (by decide) ?_
          obtain rfl := Option.some.inj hM
          exact ih _ hX _ _ _ hP hD hS (lv_sub hl [0, 1, 2] rfl)
        clear hM
        have hL_10 : ∀ (n : Nat) (z_10 : Int32 × (Nat → Int64)), it b_X6_turnIntoBass_10 n z_10 = some r_10 → ∀ (H : Heap) (locs : List Loc) (ls : Array Slot), va_P (gD g) vwCl [ob h_t 6 [.ref h_t_coefficients, .ref h_t_minors], aJ g h_t_coefficients 19 z_10.2] H → va_D A [ob h_t 6 [.ref h_t_coefficients, .ref h_t_minors], aJ g h_t_coefficients 19 z_10.2] → va_S A s.heap H locs → lv_has ls 4 [(3, .int z_10.1), (2, .int z_2.1), (0, .ref h_t), (1, .int p1)] → W p l e (rmv 0 0) s m args below meth c H locs 0 0 Q (F0 m 10 ls []) := by
          intro n
          induction n with
          | zero => intro z_10 hn; exact (it_zero hn).elim
          | succ n ih =>
            intro z_10 hn H locs ls hP hD hS hl
            obtain ⟨x, hM, hX⟩ := it_succ hn
            clear hn
            refine lv_iload_n hx hb dX6_turnIntoBass_10 rfl (lv_at hl 0 rfl) ?_
            refine lv_iconst (v := (nI 2)) hx hb dX6_turnIntoBass_11 (by decide) ?_
            refine lv_icmp_lt (tgt := 38) hx hb dX6_turnIntoBass_12 (by decide) (fun c_12 => ?_) (fun c_12 => ?_)
            · have hM := if_t hM c_12
              obtain rfl := Option.some.inj hM
              obtain rfl : _ = r_10 := hX
              exact hE_10_0 _ _ _ hP hD hS (lv_sub hl [1, 2, 3] rfl)
            · have hM := if_f hM c_12
              refine lv_aload_n hx hb dX6_turnIntoBass_15 rfl (lv_at hl 2 rfl) ?_
              refine w_get cx hP 0 6 0 rfl rfl (by decide) m_195 rfl rfl dX6_turnIntoBass_16 ?_
              refine lv_iload_n hx hb dX6_turnIntoBass_19 rfl (lv_at hl 0 rfl) ?_
              refine lv_dup2_11 hx hb dX6_turnIntoBass_20 rfl rfl ?_
              obtain ⟨g_21, hM⟩ := gd_some hM
              refine w_lald cx hP 1 rfl g_21 dX6_turnIntoBass_21 ?_
              refine lv_aload_n hx hb dX6_turnIntoBass_22 rfl (lv_at hl 2 rfl) ?_
              refine w_get cx hP 0 6 0 rfl rfl (by decide) m_195 rfl rfl dX6_turnIntoBass_23 ?_
              refine lv_iload_n hx hb dX6_turnIntoBass_26 rfl (lv_at hl 0 rfl) ?_
              refine lv_iconst (v := (nI 2)) hx hb dX6_turnIntoBass_27 (by decide) ?_
              refine lv_isub hx hb dX6_turnIntoBass_28 ?_
              obtain ⟨g_29, hM⟩ := gd_some hM
              refine w_lald cx hP 1 rfl g_29 dX6_turnIntoBass_29 ?_
              refine lv_lsub hx hb dX6_turnIntoBass_30 ?_
              obtain ⟨g_31, hM⟩ := gd_some hM
              refine w_last cx hP hD hS 1 rfl g_31 dX6_turnIntoBass_31 [ob h_t 6 [.ref h_t_coefficients, .ref h_t_minors], aJ g h_t_coefficients 19 (vp_updL z_10.2 z_10.1.toNatClampNeg ((z_10.2 z_10.1.toNatClampNeg) - (z_10.2 (z_10.1 - (nI 2)).toNatClampNeg)))] rfl (fun H locs hP hD hS => ?_)
              obtain ⟨x_32, ex_32⟩ : ∃ q : Int32, q = z_10.1 + (nI 4294967295) := ⟨_, rfl⟩
              have hM := nm_some hM x_32 ex_32
              refine lv_iinc (v := x_32) (lv' := [(3, .int x_32), (2, .int z_2.1), (0, .ref h_t), (1, .int p1)]) hx hb dX6_turnIntoBass_32 hl (k := 0) rfl ((congrArg (fun q => z_10.1 + q) (show Int32.ofInt (-1) = (nI 4294967295) by decide)).trans ex_32.symm) (by decide) rfl (fun ls hl => ?_)
              refine lv_goto (tgt := 10) hx hb dX6_turnIntoBass_35 (by decide) ?_
              obtain rfl := Option.some.inj hM
              exact ih _ hX _ _ _ hP hD hS (lv_sub hl [0, 1, 2, 3] rfl)
        exact hL_10 n _ hn _ _ _ hP hD hS (lv_sub hl [0, 1, 2, 3] rfl)
  exact hL_2 n _ hn _ _ _ hP hD hS (lv_sub hl [0, 1, 2] rfl)
noncomputable def b_X6_addShifted_3 (p2 : Int32) (p3 : Int64) (n_p1 : Nat) (a_p1 : Nat → Int64) (n_p4 : Nat) : Int32 × (Nat → Int64) → Option ((Int32 × (Nat → Int64)) ⊕ ((Nat → Int64))) := fun z_3 =>
  if (nI 12) < z_3.1 then some (.inr z_3.2) else gd (inb z_3.1 n_p4) (gd (inb (z_3.1 - p2) n_p1) (gd (inb z_3.1 n_p4) (some (.inl (z_3.1 + (nI 1), vp_updL z_3.2 z_3.1.toNatClampNeg ((z_3.2 z_3.1.toNatClampNeg) + (p3 * (a_p1 (z_3.1 - p2).toNatClampNeg))))))))
noncomputable def f_X6_addShifted (p2 : Int32) (p3 : Int64) (n_p1 : Nat) (a_p1 : Nat → Int64) (n_p4 : Nat) (a_p4 : Nat → Int64) : Option (Nat → Int64) :=
  bd (wh (b_X6_addShifted_3 p2 p3 n_p1 a_p1 n_p4) (p2, a_p4)) (fun (r_3 : Nat → Int64) => some r_3)
theorem yq_X6_addShifted : yq yX6_addShifted 4 := by unfold yq; decide +kernel
set_option maxHeartbeats 4000000 in
set_option maxRecDepth 100000 in
theorem c_X6_addShifted (g : GG) (l : Launch) (h_p1 : Nat) (h_p4 : Nat) (p2 : Int32) (p3 : Int64) (n_p1 : Nat) (a_p1 : Nat → Int64) (n_p4 : Nat) (a_p4 : Nat → Int64) {R : Nat → Int64} (hM : f_X6_addShifted p2 p3 n_p1 a_p1 n_p4 a_p4 = some R) : CT g l yX6_addShifted cX6_addShifted 6 none 0 0 [.ref h_p1, .int p2, .long p3, .ref h_p4] [aJ g h_p1 n_p1 a_p1, aJ g h_p4 n_p4 a_p4] [aJ g h_p1 n_p1 a_p1, aJ g h_p4 n_p4 R] none := by
  refine ct_v (by decide +kernel) (Nat.le_of_ble_eq_true rfl) ?_
  intro p e s m args below meth c Q A ls cx hP hD hA hl hfin
  obtain ⟨hx, hb, hml, hown, hts, hK⟩ := id cx
  have hl : lv_has ls 6 [(0, .ref h_p1), (1, .int p2), (2, .long p3), (4, .ref h_p4)] := hl
  have hS : va_S A s.heap s.heap [] := va_S.rf
  refine lv_iload_n hx hb dX6_addShifted_0 rfl (lv_at hl 1 rfl) ?_
  refine lv_istore (lv' := [(5, .int p2), (0, .ref h_p1), (1, .int p2), (2, .long p3), (4, .ref h_p4)]) hx hb dX6_addShifted_1 hl (by decide) rfl (fun ls hl => ?_)
  obtain ⟨r_3, hw, hM⟩ := bd_some hM
  obtain ⟨n, hn⟩ := wh_some hw
  clear hw
  have hE_3_0 : ∀ (H : Heap) (locs : List Loc) (ls : Array Slot), va_P (gD g) vwCl [aJ g h_p1 n_p1 a_p1, aJ g h_p4 n_p4 r_3] H → va_D A [aJ g h_p1 n_p1 a_p1, aJ g h_p4 n_p4 r_3] → va_S A s.heap H locs → lv_has ls 6 [] → W p l e (rmv 0 0) s m args below meth c H locs 0 0 Q (F0 m 32 ls []) := by
    intro H locs ls hP hD hS hl
    obtain rfl := Option.some.inj hM
    exact hfin 32 _ _ _ dX6_addShifted_32 hP hD hS
  clear hM
  have hL_3 : ∀ (n : Nat) (z_3 : Int32 × (Nat → Int64)), it (b_X6_addShifted_3 p2 p3 n_p1 a_p1 n_p4) n z_3 = some r_3 → ∀ (H : Heap) (locs : List Loc) (ls : Array Slot), va_P (gD g) vwCl [aJ g h_p1 n_p1 a_p1, aJ g h_p4 n_p4 z_3.2] H → va_D A [aJ g h_p1 n_p1 a_p1, aJ g h_p4 n_p4 z_3.2] → va_S A s.heap H locs → lv_has ls 6 [(5, .int z_3.1), (0, .ref h_p1), (1, .int p2), (2, .long p3), (4, .ref h_p4)] → W p l e (rmv 0 0) s m args below meth c H locs 0 0 Q (F0 m 3 ls []) := by
    intro n
    induction n with
    | zero => intro z_3 hn; exact (it_zero hn).elim
    | succ n ih =>
      intro z_3 hn H locs ls hP hD hS hl
      obtain ⟨x, hM, hX⟩ := it_succ hn
      clear hn
      refine lv_iload hx hb dX6_addShifted_3 (lv_at hl 0 rfl) ?_
      refine lv_bipush (v := (nI 12)) hx hb dX6_addShifted_5 (by decide) ?_
      refine lv_icmp_gt (tgt := 32) hx hb dX6_addShifted_7 (by decide) (fun c_7 => ?_) (fun c_7 => ?_)
      · have hM := if_t hM c_7
        obtain rfl := Option.some.inj hM
        obtain rfl : _ = r_3 := hX
        exact hE_3_0 _ _ _ hP hD hS (lv_sub hl [] rfl)
      · have hM := if_f hM c_7
        refine lv_aload hx hb dX6_addShifted_10 (lv_at hl 4 rfl) ?_
        refine lv_iload hx hb dX6_addShifted_12 (lv_at hl 0 rfl) ?_
        refine lv_dup2_11 hx hb dX6_addShifted_14 rfl rfl ?_
        obtain ⟨g_15, hM⟩ := gd_some hM
        refine w_lald cx hP 1 rfl g_15 dX6_addShifted_15 ?_
        refine lv_lload_n hx hb dX6_addShifted_16 rfl (lv_at hl 3 rfl) ?_
        refine lv_aload_n hx hb dX6_addShifted_17 rfl (lv_at hl 1 rfl) ?_
        refine lv_iload hx hb dX6_addShifted_18 (lv_at hl 0 rfl) ?_
        refine lv_iload_n hx hb dX6_addShifted_20 rfl (lv_at hl 2 rfl) ?_
        refine lv_isub hx hb dX6_addShifted_21 ?_
        obtain ⟨g_22, hM⟩ := gd_some hM
        refine w_lald cx hP 0 rfl g_22 dX6_addShifted_22 ?_
        refine lv_lmul hx hb dX6_addShifted_23 ?_
        refine lv_ladd hx hb dX6_addShifted_24 ?_
        obtain ⟨g_25, hM⟩ := gd_some hM
        refine w_last cx hP hD hS 1 rfl g_25 dX6_addShifted_25 [aJ g h_p1 n_p1 a_p1, aJ g h_p4 n_p4 (vp_updL z_3.2 z_3.1.toNatClampNeg ((z_3.2 z_3.1.toNatClampNeg) + (p3 * (a_p1 (z_3.1 - p2).toNatClampNeg))))] rfl (fun H locs hP hD hS => ?_)
        refine lv_iinc (v := z_3.1 + (nI 1)) (lv' := [(5, .int (z_3.1 + (nI 1))), (0, .ref h_p1), (1, .int p2), (2, .long p3), (4, .ref h_p4)]) hx hb dX6_addShifted_26 hl (k := 0) rfl (congrArg (fun q => z_3.1 + q) (show Int32.ofInt (1) = (nI 1) by decide)) (by decide) rfl (fun ls hl => ?_)
        refine lv_goto (tgt := 3) hx hb dX6_addShifted_29 (by decide) ?_
        obtain rfl := Option.some.inj hM
        exact ih _ hX _ _ _ hP hD hS (lv_sub hl [0, 1, 2, 3, 4] rfl)
  exact hL_3 n _ hn _ _ _ hP hD hS (lv_sub hl [0, 1, 2, 3, 4] rfl)
noncomputable def f_X6_addProduct (p2 : Int32) (p3 : Int32) (p4 : Int64) (p1_vertices : Int32) (p1_edges : Int32) (a_p1_firsts : Nat → Int32) (a_p1_seconds : Nat → Int32) (n_p5 : Nat) (a_p5 : Nat → Int64) (n_p6 : Nat) (a_p6 : Nat → Int64) : Option (Nat → Int64) :=
  if p2 = p3 then bd (f_X6_addShifted (nI 0) p4 n_p5 a_p5 n_p6 a_p6) (fun (q_30 : Nat → Int64) => bd (f_X2_edgesAt p2 p1_vertices p1_edges a_p1_firsts a_p1_seconds) (fun (q_39 : Int32) => bd (f_X6_addShifted (nI 2) (p4 * ((q_39 - (nI 1)).toInt64)) n_p5 a_p5 n_p6 q_30) (fun (q_48 : Nat → Int64) => some q_48))) else bd (f_X2_edgesBetween p2 p3 p1_vertices p1_edges a_p1_firsts a_p1_seconds) (fun (q_13 : Int32) => bd (f_X6_addShifted (nI 1) ((-p4) * q_13.toInt64) n_p5 a_p5 n_p6 a_p6) (fun (q_20 : Nat → Int64) => some q_20))
theorem yq_X6_addProduct : yq yX6_addProduct 6 := by unfold yq; decide +kernel
set_option maxHeartbeats 4000000 in
set_option maxRecDepth 100000 in
theorem c_X6_addProduct (g : GG) (l : Launch) (h_p1 : Nat) (h_p1_firsts : Nat) (h_p1_seconds : Nat) (h_p1_signs : Nat) (h_p5 : Nat) (h_p6 : Nat) (p2 : Int32) (p3 : Int32) (p4 : Int64) (p1_vertices : Int32) (p1_edges : Int32) (a_p1_firsts : Nat → Int32) (a_p1_seconds : Nat → Int32) (n_p5 : Nat) (a_p5 : Nat → Int64) (n_p6 : Nat) (a_p6 : Nat → Int64) {R : Nat → Int64} (hM : f_X6_addProduct p2 p3 p4 p1_vertices p1_edges a_p1_firsts a_p1_seconds n_p5 a_p5 n_p6 a_p6 = some R) : CT g l yX6_addProduct cX6_addProduct 7 none 1 26 [.ref h_p1, .int p2, .int p3, .long p4, .ref h_p5, .ref h_p6] [ob h_p1 2 [.int p1_vertices, .int p1_edges, .ref h_p1_firsts, .ref h_p1_seconds, .ref h_p1_signs], aI g h_p1_firsts 9 a_p1_firsts, aI g h_p1_seconds 9 a_p1_seconds, aJ g h_p5 n_p5 a_p5, aJ g h_p6 n_p6 a_p6] [ob h_p1 2 [.int p1_vertices, .int p1_edges, .ref h_p1_firsts, .ref h_p1_seconds, .ref h_p1_signs], aI g h_p1_firsts 9 a_p1_firsts, aI g h_p1_seconds 9 a_p1_seconds, aJ g h_p5 n_p5 a_p5, aJ g h_p6 n_p6 R] none := by
  refine ct_v (by decide +kernel) (Nat.le_of_ble_eq_true rfl) ?_
  intro p e s m args below meth c Q A ls cx hP hD hA hl hfin
  obtain ⟨hx, hb, hml, hown, hts, hK⟩ := id cx
  have hl : lv_has ls 7 [(0, .ref h_p1), (1, .int p2), (2, .int p3), (3, .long p4), (5, .ref h_p5), (6, .ref h_p6)] := hl
  have hS : va_S A s.heap s.heap [] := va_S.rf
  refine lv_iload_n hx hb dX6_addProduct_0 rfl (lv_at hl 1 rfl) ?_
  refine lv_iload_n hx hb dX6_addProduct_1 rfl (lv_at hl 2 rfl) ?_
  refine lv_icmp_eq (tgt := 24) hx hb dX6_addProduct_2 (by decide) (fun c_2 => ?_) (fun c_2 => ?_)
  · have hM := if_t hM c_2
    refine lv_aload hx hb dX6_addProduct_24 (lv_at hl 4 rfl) ?_
    refine lv_iconst (v := (nI 0)) hx hb dX6_addProduct_26 (by decide) ?_
    refine lv_lload_n hx hb dX6_addProduct_27 rfl (lv_at hl 3 rfl) ?_
    refine lv_aload hx hb dX6_addProduct_28 (lv_at hl 5 rfl) ?_
    obtain ⟨q_30, hc_30, hM⟩ := bd_some hM
    refine w_callS cx hP hD hS hA (c_X6_addShifted g l h_p5 h_p6 (nI 0) p4 n_p5 a_p5 n_p6 a_p6 hc_30) [3, 4] rfl (by decide) rfl [ob h_p1 2 [.int p1_vertices, .int p1_edges, .ref h_p1_firsts, .ref h_p1_seconds, .ref h_p1_signs], aI g h_p1_firsts 9 a_p1_firsts, aI g h_p1_seconds 9 a_p1_seconds, aJ g h_p5 n_p5 a_p5, aJ g h_p6 n_p6 q_30] rfl yq_X6_addShifted m_543 m_544 m_25 m_545 ⟨Nat.le_of_ble_eq_true rfl, Nat.le_of_ble_eq_true rfl⟩ rfl rfl hl.1 (Nat.le_of_ble_eq_true rfl) dX6_addProduct_30 ⟨Nat.le_refl 0, Nat.le_refl 0⟩ rfl (fun H locs hP hD hS => ?_)
    refine lv_aload hx hb dX6_addProduct_33 (lv_at hl 4 rfl) ?_
    refine lv_iconst (v := (nI 2)) hx hb dX6_addProduct_35 (by decide) ?_
    refine lv_lload_n hx hb dX6_addProduct_36 rfl (lv_at hl 3 rfl) ?_
    refine lv_aload_n hx hb dX6_addProduct_37 rfl (lv_at hl 0 rfl) ?_
    refine lv_iload_n hx hb dX6_addProduct_38 rfl (lv_at hl 1 rfl) ?_
    obtain ⟨q_39, hc_39, hM⟩ := bd_some hM
    refine w_callV cx hP hD hS hA (c_X2_edgesAt g l h_p1 h_p1_firsts h_p1_seconds h_p1_signs p2 p1_vertices p1_edges a_p1_firsts a_p1_seconds hc_39) [0, 1, 2] rfl (by decide) rfl [ob h_p1 2 [.int p1_vertices, .int p1_edges, .ref h_p1_firsts, .ref h_p1_seconds, .ref h_p1_signs], aI g h_p1_firsts 9 a_p1_firsts, aI g h_p1_seconds 9 a_p1_seconds, aJ g h_p5 n_p5 a_p5, aJ g h_p6 n_p6 q_30] rfl 0 2 rfl rfl yq_X2_edgesAt rfl m_546 m_442 m_443 m_18 m_444 ⟨Nat.le_of_ble_eq_true rfl, Nat.le_of_ble_eq_true rfl⟩ rfl rfl hl.1 (Nat.le_of_ble_eq_true rfl) dX6_addProduct_39 ⟨Nat.le_refl 0, Nat.le_refl 0⟩ rfl (fun H locs hP hD hS => ?_)
    refine lv_iconst (v := (nI 1)) hx hb dX6_addProduct_42 (by decide) ?_
    refine lv_isub hx hb dX6_addProduct_43 ?_
    refine lv_i2l (v := (q_39 - (nI 1)).toInt64) hx hb dX6_addProduct_44 rfl ?_
    refine lv_lmul hx hb dX6_addProduct_45 ?_
    refine lv_aload hx hb dX6_addProduct_46 (lv_at hl 5 rfl) ?_
    obtain ⟨q_48, hc_48, hM⟩ := bd_some hM
    refine w_callS cx hP hD hS hA (c_X6_addShifted g l h_p5 h_p6 (nI 2) (p4 * ((q_39 - (nI 1)).toInt64)) n_p5 a_p5 n_p6 q_30 hc_48) [3, 4] rfl (by decide) rfl [ob h_p1 2 [.int p1_vertices, .int p1_edges, .ref h_p1_firsts, .ref h_p1_seconds, .ref h_p1_signs], aI g h_p1_firsts 9 a_p1_firsts, aI g h_p1_seconds 9 a_p1_seconds, aJ g h_p5 n_p5 a_p5, aJ g h_p6 n_p6 q_48] rfl yq_X6_addShifted m_543 m_544 m_25 m_545 ⟨Nat.le_of_ble_eq_true rfl, Nat.le_of_ble_eq_true rfl⟩ rfl rfl hl.1 (Nat.le_of_ble_eq_true rfl) dX6_addProduct_48 ⟨Nat.le_refl 0, Nat.le_refl 0⟩ rfl (fun H locs hP hD hS => ?_)
    obtain rfl := Option.some.inj hM
    exact hfin 51 _ _ _ dX6_addProduct_51 hP hD hS
  · have hM := if_f hM c_2
    refine lv_aload hx hb dX6_addProduct_5 (lv_at hl 4 rfl) ?_
    refine lv_iconst (v := (nI 1)) hx hb dX6_addProduct_7 (by decide) ?_
    refine lv_lload_n hx hb dX6_addProduct_8 rfl (lv_at hl 3 rfl) ?_
    refine lv_lneg hx hb dX6_addProduct_9 ?_
    refine lv_aload_n hx hb dX6_addProduct_10 rfl (lv_at hl 0 rfl) ?_
    refine lv_iload_n hx hb dX6_addProduct_11 rfl (lv_at hl 1 rfl) ?_
    refine lv_iload_n hx hb dX6_addProduct_12 rfl (lv_at hl 2 rfl) ?_
    obtain ⟨q_13, hc_13, hM⟩ := bd_some hM
    refine w_callV cx hP hD hS hA (c_X2_edgesBetween g l h_p1 h_p1_firsts h_p1_seconds h_p1_signs p2 p3 p1_vertices p1_edges a_p1_firsts a_p1_seconds hc_13) [0, 1, 2] rfl (by decide) rfl [ob h_p1 2 [.int p1_vertices, .int p1_edges, .ref h_p1_firsts, .ref h_p1_seconds, .ref h_p1_signs], aI g h_p1_firsts 9 a_p1_firsts, aI g h_p1_seconds 9 a_p1_seconds, aJ g h_p5 n_p5 a_p5, aJ g h_p6 n_p6 a_p6] rfl 0 2 rfl rfl yq_X2_edgesBetween rfl m_539 m_540 m_541 m_18 m_542 ⟨Nat.le_of_ble_eq_true rfl, Nat.le_of_ble_eq_true rfl⟩ rfl rfl hl.1 (Nat.le_of_ble_eq_true rfl) dX6_addProduct_13 ⟨Nat.le_refl 0, Nat.le_refl 0⟩ rfl (fun H locs hP hD hS => ?_)
    refine lv_i2l (v := q_13.toInt64) hx hb dX6_addProduct_16 rfl ?_
    refine lv_lmul hx hb dX6_addProduct_17 ?_
    refine lv_aload hx hb dX6_addProduct_18 (lv_at hl 5 rfl) ?_
    obtain ⟨q_20, hc_20, hM⟩ := bd_some hM
    refine w_callS cx hP hD hS hA (c_X6_addShifted g l h_p5 h_p6 (nI 1) ((-p4) * q_13.toInt64) n_p5 a_p5 n_p6 a_p6 hc_20) [3, 4] rfl (by decide) rfl [ob h_p1 2 [.int p1_vertices, .int p1_edges, .ref h_p1_firsts, .ref h_p1_seconds, .ref h_p1_signs], aI g h_p1_firsts 9 a_p1_firsts, aI g h_p1_seconds 9 a_p1_seconds, aJ g h_p5 n_p5 a_p5, aJ g h_p6 n_p6 q_20] rfl yq_X6_addShifted m_543 m_544 m_25 m_545 ⟨Nat.le_of_ble_eq_true rfl, Nat.le_of_ble_eq_true rfl⟩ rfl rfl hl.1 (Nat.le_of_ble_eq_true rfl) dX6_addProduct_20 ⟨Nat.le_refl 0, Nat.le_refl 0⟩ rfl (fun H locs hP hD hS => ?_)
    obtain rfl := Option.some.inj hM
    exact hfin 23 _ _ _ dX6_addProduct_23 hP hD hS
