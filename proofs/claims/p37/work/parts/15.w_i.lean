noncomputable def b_X6_makeMinor_31 (p2 : Int32) (p1_vertices : Int32) (p1_edges : Int32) (a_p1_firsts : Nat → Int32) (a_p1_seconds : Nat → Int32) (x_18 : Int32) : Int32 × Int64 × (Nat → Nat → Int64) → Option ((Int32 × Int64 × (Nat → Nat → Int64)) ⊕ ((Nat → Nat → Int64))) := fun z_31 =>
  if z_31.1 < 0 then some (.inr z_31.2.2) else if ((p2 >>> (z_31.1 &&& 31)) &&& (nI 1)) = (nI 1) then gd (inb (p2 ^^^ ((nI 1) <<< (z_31.1 &&& 31))) 64) (gd (ltq ((p2 ^^^ ((nI 1) <<< (z_31.1 &&& 31))).toNatClampNeg) 64) (gd (ltq p2.toNatClampNeg 64) (gd (neq' ((p2 ^^^ ((nI 1) <<< (z_31.1 &&& 31))).toNatClampNeg) p2.toNatClampNeg) (bd (f_X6_addProduct x_18 z_31.1 z_31.2.1 p1_vertices p1_edges a_p1_firsts a_p1_seconds 13 (z_31.2.2 ((p2 ^^^ ((nI 1) <<< (z_31.1 &&& 31))).toNatClampNeg)) 13 (z_31.2.2 p2.toNatClampNeg)) (fun (q_65 : Nat → Int64) => nm (-z_31.2.1) (fun (x_71 : Int64) => nm (z_31.1 + (nI 4294967295)) (fun (x_73 : Int32) => some (.inl (x_73, x_71, updM z_31.2.2 p2.toNatClampNeg q_65))))))))) else nm (z_31.1 + (nI 4294967295)) (fun (x_73 : Int32) => some (.inl (x_73, z_31.2.1, z_31.2.2)))
noncomputable def f_X6_makeMinor (p2 : Int32) (p1_vertices : Int32) (p1_edges : Int32) (a_p1_firsts : Nat → Int32) (a_p1_seconds : Nat → Int32) (M_t_minors : Nat → Nat → Int64) : Option (Nat → Nat → Int64) :=
  gd (inb p2 64) (gd (ltq p2.toNatClampNeg 64) (bd (f_J7_fill_d0a16 (0 : Int64) 13 (M_t_minors p2.toNatClampNeg)) (fun (q_9 : Nat → Int64) => bd (f_J6_bitCount_0f7a4 p2) (fun (q_13 : Int32) => nm (q_13 - (nI 1)) (fun (x_18 : Int32) => nm (p1_vertices - (nI 1)) (fun (x_29 : Int32) => bd (wh (b_X6_makeMinor_31 p2 p1_vertices p1_edges a_p1_firsts a_p1_seconds x_18) (x_29, (1 : Int64), updM M_t_minors p2.toNatClampNeg q_9)) (fun (r_31 : Nat → Nat → Int64) => some r_31)))))))
theorem yq_X6_makeMinor : yq yX6_makeMinor 2 := by unfold yq; decide +kernel
set_option maxHeartbeats 4000000 in
set_option maxRecDepth 100000 in
theorem c_X6_makeMinor (g : GG) (l : Launch) (h_t : Nat) (h_t_coefficients : Nat) (h_t_minors : Nat) (h_p1 : Nat) (h_p1_firsts : Nat) (h_p1_seconds : Nat) (h_p1_signs : Nat) (ra_h_t_minors : Nat → Nat) (p2 : Int32) (p1_vertices : Int32) (p1_edges : Int32) (a_p1_firsts : Nat → Int32) (a_p1_seconds : Nat → Int32) (M_t_minors : Nat → Nat → Int64) {R : Nat → Nat → Int64} (hM : f_X6_makeMinor p2 p1_vertices p1_edges a_p1_firsts a_p1_seconds M_t_minors = some R) : CT g l yX6_makeMinor cX6_makeMinor 8 none 2 52 [.ref h_t, .ref h_p1, .int p2] ([ob h_t 6 [.ref h_t_coefficients, .ref h_t_minors], ob h_p1 2 [.int p1_vertices, .int p1_edges, .ref h_p1_firsts, .ref h_p1_seconds, .ref h_p1_signs], aI g h_p1_firsts 9 a_p1_firsts, aI g h_p1_seconds 9 a_p1_seconds, aM g h_t_minors 64 (mref ra_h_t_minors)] ++ (mrows g ra_h_t_minors M_t_minors)) ([ob h_t 6 [.ref h_t_coefficients, .ref h_t_minors], ob h_p1 2 [.int p1_vertices, .int p1_edges, .ref h_p1_firsts, .ref h_p1_seconds, .ref h_p1_signs], aI g h_p1_firsts 9 a_p1_firsts, aI g h_p1_seconds 9 a_p1_seconds, aM g h_t_minors 64 (mref ra_h_t_minors)] ++ (mrows g ra_h_t_minors R)) none := by
  refine ct_v (by decide +kernel) (Nat.le_of_ble_eq_true rfl) ?_
  intro p e s m args below meth c Q A ls cx hP hD hA hl hfin
  obtain ⟨hx, hb, hml, hown, hts, hK⟩ := id cx
  have hl : lv_has ls 8 [(0, .ref h_t), (1, .ref h_p1), (2, .int p2)] := hl
  have hS : va_S A s.heap s.heap [] := va_S.rf
  refine lv_aload_n hx hb dX6_makeMinor_0 rfl (lv_at hl 0 rfl) ?_
  refine w_get cx hP 0 6 1 rfl rfl (by decide) m_197 rfl rfl dX6_makeMinor_1 ?_
  refine lv_iload_n hx hb dX6_makeMinor_4 rfl (lv_at hl 2 rfl) ?_
  obtain ⟨g_5, hM⟩ := gd_some hM
  refine w_aldM cx hP 4 rfl g_5 dX6_makeMinor_5 ?_
  refine lv_astore_n (lv' := [(3, .ref (ra_h_t_minors p2.toNatClampNeg)), (0, .ref h_t), (1, .ref h_p1), (2, .int p2)]) hx hb dX6_makeMinor_6 rfl hl (by decide) rfl (fun ls hl => ?_)
  refine lv_aload_n hx hb dX6_makeMinor_7 rfl (lv_at hl 0 rfl) ?_
  refine lv_lconst (v := (0 : Int64)) hx hb dX6_makeMinor_8 (by decide) ?_
  obtain ⟨gm_9_0, hM⟩ := gd_some hM
  obtain ⟨q_9, hc_9, hM⟩ := bd_some hM
  refine w_callSM cx hP hD hS hA (c_J7_fill_d0a16 g l (ra_h_t_minors p2.toNatClampNeg) (0 : Int64) 13 (M_t_minors p2.toNatClampNeg) hc_9) [5 + p2.toNatClampNeg] (by simp only [List.map_cons, List.map_nil]; rw [mrows_at (k := 5) rfl (ltq_lt gm_9_0)]; try rfl) rfl rfl 0 5 p2.toNatClampNeg rfl (ltq_lt gm_9_0) rfl rfl yq_J7_fill_d0a16 m_525 m_376 m_26 m_377 ⟨Nat.le_of_ble_eq_true rfl, Nat.le_of_ble_eq_true rfl⟩ rfl rfl hl.1 (Nat.le_of_ble_eq_true rfl) dX6_makeMinor_9 ⟨Nat.le_refl 0, Nat.le_refl 0⟩ rfl (fun H locs hP hD hS => ?_)
  refine lv_iload_n hx hb dX6_makeMinor_12 rfl (lv_at hl 3 rfl) ?_
  obtain ⟨q_13, hc_13, hM⟩ := bd_some hM
  refine w_callS cx hP hD hS hA (c_J6_bitCount_0f7a4 g l p2 hc_13) [] rfl (by decide) rfl ([ob h_t 6 [.ref h_t_coefficients, .ref h_t_minors], ob h_p1 2 [.int p1_vertices, .int p1_edges, .ref h_p1_firsts, .ref h_p1_seconds, .ref h_p1_signs], aI g h_p1_firsts 9 a_p1_firsts, aI g h_p1_seconds 9 a_p1_seconds, aM g h_t_minors 64 (mref ra_h_t_minors)] ++ (mrows g ra_h_t_minors (updM M_t_minors p2.toNatClampNeg q_9))) rfl yq_J6_bitCount_0f7a4 m_530 m_531 m_27 m_532 ⟨Nat.le_of_ble_eq_true rfl, Nat.le_of_ble_eq_true rfl⟩ rfl rfl hl.1 (Nat.le_of_ble_eq_true rfl) dX6_makeMinor_13 ⟨Nat.le_refl 0, Nat.le_refl 0⟩ rfl (fun H locs hP hD hS => ?_)
  refine lv_iconst (v := (nI 1)) hx hb dX6_makeMinor_16 (by decide) ?_
  refine lv_isub hx hb dX6_makeMinor_17 ?_
  refine lv_topi (fun x_18 ex_18 => ?_)
  have hM := nm_some hM x_18 ex_18
  refine lv_istore (lv' := [(4, .int x_18), (3, .ref (ra_h_t_minors p2.toNatClampNeg)), (0, .ref h_t), (1, .ref h_p1), (2, .int p2)]) hx hb dX6_makeMinor_18 hl (by decide) rfl (fun ls hl => ?_)
  refine lv_lconst (v := (1 : Int64)) hx hb dX6_makeMinor_20 (by decide) ?_
  refine lv_lstore (lv' := [(5, .long (1 : Int64)), (4, .int x_18), (3, .ref (ra_h_t_minors p2.toNatClampNeg)), (0, .ref h_t), (1, .ref h_p1), (2, .int p2)]) hx hb dX6_makeMinor_21 hl (by decide) rfl (fun ls hl => ?_)
  refine lv_aload_n hx hb dX6_makeMinor_23 rfl (lv_at hl 4 rfl) ?_
  refine w_getN cx hP 1 2 0 rfl rfl (by decide) n_46 rfl rfl dX6_makeMinor_24 ?_
  refine lv_iconst (v := (nI 1)) hx hb dX6_makeMinor_27 (by decide) ?_
  refine lv_isub hx hb dX6_makeMinor_28 ?_
  refine lv_topi (fun x_29 ex_29 => ?_)
  have hM := nm_some hM x_29 ex_29
  refine lv_istore (lv' := [(7, .int x_29), (5, .long (1 : Int64)), (4, .int x_18), (3, .ref (ra_h_t_minors p2.toNatClampNeg)), (0, .ref h_t), (1, .ref h_p1), (2, .int p2)]) hx hb dX6_makeMinor_29 hl (by decide) rfl (fun ls hl => ?_)
  obtain ⟨r_31, hw, hM⟩ := bd_some hM
  obtain ⟨n, hn⟩ := wh_some hw
  clear hw
  have hE_31_0 : ∀ (H : Heap) (locs : List Loc) (ls : Array Slot), va_P (gD g) vwCl ([ob h_t 6 [.ref h_t_coefficients, .ref h_t_minors], ob h_p1 2 [.int p1_vertices, .int p1_edges, .ref h_p1_firsts, .ref h_p1_seconds, .ref h_p1_signs], aI g h_p1_firsts 9 a_p1_firsts, aI g h_p1_seconds 9 a_p1_seconds, aM g h_t_minors 64 (mref ra_h_t_minors)] ++ (mrows g ra_h_t_minors r_31)) H → va_D A ([ob h_t 6 [.ref h_t_coefficients, .ref h_t_minors], ob h_p1 2 [.int p1_vertices, .int p1_edges, .ref h_p1_firsts, .ref h_p1_seconds, .ref h_p1_signs], aI g h_p1_firsts 9 a_p1_firsts, aI g h_p1_seconds 9 a_p1_seconds, aM g h_t_minors 64 (mref ra_h_t_minors)] ++ (mrows g ra_h_t_minors r_31)) → va_S A s.heap H locs → lv_has ls 8 [] → W p l e (rmv 2 52) s m args below meth c H locs 0 0 Q (F0 m 79 ls []) := by
    intro H locs ls hP hD hS hl
    obtain rfl := Option.some.inj hM
    exact hfin 79 _ _ _ dX6_makeMinor_79 hP hD hS
  clear hM
  have hL_31 : ∀ (n : Nat) (z_31 : Int32 × Int64 × (Nat → Nat → Int64)), it (b_X6_makeMinor_31 p2 p1_vertices p1_edges a_p1_firsts a_p1_seconds x_18) n z_31 = some r_31 → ∀ (H : Heap) (locs : List Loc) (ls : Array Slot), va_P (gD g) vwCl ([ob h_t 6 [.ref h_t_coefficients, .ref h_t_minors], ob h_p1 2 [.int p1_vertices, .int p1_edges, .ref h_p1_firsts, .ref h_p1_seconds, .ref h_p1_signs], aI g h_p1_firsts 9 a_p1_firsts, aI g h_p1_seconds 9 a_p1_seconds, aM g h_t_minors 64 (mref ra_h_t_minors)] ++ (mrows g ra_h_t_minors z_31.2.2)) H → va_D A ([ob h_t 6 [.ref h_t_coefficients, .ref h_t_minors], ob h_p1 2 [.int p1_vertices, .int p1_edges, .ref h_p1_firsts, .ref h_p1_seconds, .ref h_p1_signs], aI g h_p1_firsts 9 a_p1_firsts, aI g h_p1_seconds 9 a_p1_seconds, aM g h_t_minors 64 (mref ra_h_t_minors)] ++ (mrows g ra_h_t_minors z_31.2.2)) → va_S A s.heap H locs → lv_has ls 8 [(7, .int z_31.1), (5, .long z_31.2.1), (4, .int x_18), (3, .ref (ra_h_t_minors p2.toNatClampNeg)), (0, .ref h_t), (1, .ref h_p1), (2, .int p2)] → W p l e (rmv 2 52) s m args below meth c H locs 0 0 Q (F0 m 31 ls []) := by
    intro n
    induction n with
    | zero => intro z_31 hn; exact (it_zero hn).elim
    | succ n ih =>
      intro z_31 hn H locs ls hP hD hS hl
      obtain ⟨x, hM, hX⟩ := it_succ hn
      clear hn
      refine lv_iload hx hb dX6_makeMinor_31 (lv_at hl 0 rfl) ?_
      refine lv_if_lt (tgt := 79) hx hb dX6_makeMinor_33 (by decide) (fun c_33 => ?_) (fun c_33 => ?_)
      · have hM := if_t hM c_33
        obtain rfl := Option.some.inj hM
        obtain rfl : _ = r_31 := hX
        exact hE_31_0 _ _ _ hP hD hS (lv_sub hl [] rfl)
      · have hM := if_f hM c_33
        refine lv_iload_n hx hb dX6_makeMinor_36 rfl (lv_at hl 6 rfl) ?_
        refine lv_iload hx hb dX6_makeMinor_37 (lv_at hl 0 rfl) ?_
        refine lv_ishr hx hb dX6_makeMinor_39 ?_
        refine lv_iconst (v := (nI 1)) hx hb dX6_makeMinor_40 (by decide) ?_
        refine lv_iand hx hb dX6_makeMinor_41 ?_
        refine lv_iconst (v := (nI 1)) hx hb dX6_makeMinor_42 (by decide) ?_
        refine lv_icmp_ne (tgt := 73) hx hb dX6_makeMinor_43 (by decide) (fun c_43 => ?_) (fun c_43 => ?_)
        · have hM := if_f hM c_43
          obtain ⟨x_73, ex_73⟩ : ∃ q : Int32, q = z_31.1 + (nI 4294967295) := ⟨_, rfl⟩
          have hM := nm_some hM x_73 ex_73
          refine lv_iinc (v := x_73) (lv' := [(7, .int x_73), (5, .long z_31.2.1), (4, .int x_18), (3, .ref (ra_h_t_minors p2.toNatClampNeg)), (0, .ref h_t), (1, .ref h_p1), (2, .int p2)]) hx hb dX6_makeMinor_73 hl (k := 0) rfl ((congrArg (fun q => z_31.1 + q) (show Int32.ofInt (-1) = (nI 4294967295) by decide)).trans ex_73.symm) (by decide) rfl (fun ls hl => ?_)
          refine lv_goto (tgt := 31) hx hb dX6_makeMinor_76 (by decide) ?_
          obtain rfl := Option.some.inj hM
          exact ih _ hX _ _ _ hP hD hS (lv_sub hl [0, 1, 2, 3, 4, 5, 6] rfl)
        · have hM := if_t hM c_43
          refine lv_aload_n hx hb dX6_makeMinor_46 rfl (lv_at hl 5 rfl) ?_
          refine lv_iload hx hb dX6_makeMinor_47 (lv_at hl 2 rfl) ?_
          refine lv_iload hx hb dX6_makeMinor_49 (lv_at hl 0 rfl) ?_
          refine lv_lload hx hb dX6_makeMinor_51 (lv_at hl 1 rfl) ?_
          refine lv_aload_n hx hb dX6_makeMinor_53 rfl (lv_at hl 4 rfl) ?_
          refine w_get cx hP 0 6 1 rfl rfl (by decide) m_197 rfl rfl dX6_makeMinor_54 ?_
          refine lv_iload_n hx hb dX6_makeMinor_57 rfl (lv_at hl 6 rfl) ?_
          refine lv_iconst (v := (nI 1)) hx hb dX6_makeMinor_58 (by decide) ?_
          refine lv_iload hx hb dX6_makeMinor_59 (lv_at hl 0 rfl) ?_
          refine lv_ishl hx hb dX6_makeMinor_61 ?_
          refine lv_ixor hx hb dX6_makeMinor_62 ?_
          obtain ⟨g_63, hM⟩ := gd_some hM
          refine w_aldM cx hP 4 rfl g_63 dX6_makeMinor_63 ?_
          refine lv_aload_n hx hb dX6_makeMinor_64 rfl (lv_at hl 3 rfl) ?_
          obtain ⟨gm_65_0, hM⟩ := gd_some hM
          obtain ⟨gm_65_1, hM⟩ := gd_some hM
          obtain ⟨gm_65_2, hM⟩ := gd_some hM
          obtain ⟨q_65, hc_65, hM⟩ := bd_some hM
          refine w_callSM cx hP hD hS hA (c_X6_addProduct g l h_p1 h_p1_firsts h_p1_seconds h_p1_signs (ra_h_t_minors ((p2 ^^^ ((nI 1) <<< (z_31.1 &&& 31))).toNatClampNeg)) (ra_h_t_minors p2.toNatClampNeg) x_18 z_31.1 z_31.2.1 p1_vertices p1_edges a_p1_firsts a_p1_seconds 13 (z_31.2.2 ((p2 ^^^ ((nI 1) <<< (z_31.1 &&& 31))).toNatClampNeg)) 13 (z_31.2.2 p2.toNatClampNeg) hc_65) [1, 2, 3, 5 + ((p2 ^^^ ((nI 1) <<< (z_31.1 &&& 31))).toNatClampNeg), 5 + p2.toNatClampNeg] (by simp only [List.map_cons, List.map_nil]; rw [mrows_at (k := 5) rfl (ltq_lt gm_65_0), mrows_at (k := 5) rfl (ltq_lt gm_65_1)]; try rfl) (by have hne := neq_ne gm_65_2; simp [va_nd]; omega) rfl 4 5 p2.toNatClampNeg rfl (ltq_lt gm_65_1) rfl rfl yq_X6_addProduct m_536 m_537 m_25 m_538 ⟨Nat.le_of_ble_eq_true rfl, Nat.le_of_ble_eq_true rfl⟩ rfl rfl hl.1 (Nat.le_of_ble_eq_true rfl) dX6_makeMinor_65 ⟨Nat.le_refl 0, Nat.le_refl 0⟩ rfl (fun H locs hP hD hS => ?_)
          refine lv_lload hx hb dX6_makeMinor_68 (lv_at hl 1 rfl) ?_
          refine lv_lneg hx hb dX6_makeMinor_70 ?_
          refine lv_topl (fun x_71 ex_71 => ?_)
          have hM := nm_some hM x_71 ex_71
          refine lv_lstore (lv' := [(5, .long x_71), (7, .int z_31.1), (4, .int x_18), (3, .ref (ra_h_t_minors p2.toNatClampNeg)), (0, .ref h_t), (1, .ref h_p1), (2, .int p2)]) hx hb dX6_makeMinor_71 hl (by decide) rfl (fun ls hl => ?_)
          obtain ⟨x_73, ex_73⟩ : ∃ q : Int32, q = z_31.1 + (nI 4294967295) := ⟨_, rfl⟩
          have hM := nm_some hM x_73 ex_73
          refine lv_iinc (v := x_73) (lv' := [(7, .int x_73), (5, .long x_71), (4, .int x_18), (3, .ref (ra_h_t_minors p2.toNatClampNeg)), (0, .ref h_t), (1, .ref h_p1), (2, .int p2)]) hx hb dX6_makeMinor_73 hl (k := 1) rfl ((congrArg (fun q => z_31.1 + q) (show Int32.ofInt (-1) = (nI 4294967295) by decide)).trans ex_73.symm) (by decide) rfl (fun ls hl => ?_)
          refine lv_goto (tgt := 31) hx hb dX6_makeMinor_76 (by decide) ?_
          obtain rfl := Option.some.inj hM
          exact ih _ hX _ _ _ hP hD hS (lv_sub hl [0, 1, 2, 3, 4, 5, 6] rfl)
  exact hL_31 n _ hn _ _ _ hP hD hS (lv_sub hl [0, 1, 2, 3, 4, 5, 6] rfl)
noncomputable def b_X6_makeFrom_30 (p1_vertices : Int32) (p1_edges : Int32) (a_p1_firsts : Nat → Int32) (a_p1_seconds : Nat → Int32) (x_27 : Int32) : Int32 × (Nat → Nat → Int64) → Option ((Int32 × (Nat → Nat → Int64)) ⊕ ((Nat → Nat → Int64))) := fun z_30 =>
  if x_27 < z_30.1 then some (.inr z_30.2) else bd (f_X6_makeMinor z_30.1 p1_vertices p1_edges a_p1_firsts a_p1_seconds z_30.2) (fun (q_38 : Nat → Nat → Int64) => some (.inl (z_30.1 + (nI 1), q_38)))
noncomputable def f_X6_makeFrom (a_t_coefficients : Nat → Int64) (p1_vertices : Int32) (p1_edges : Int32) (a_p1_firsts : Nat → Int32) (a_p1_seconds : Nat → Int32) (M_t_minors : Nat → Nat → Int64) : Option ((Nat → Int64) × (Nat → Nat → Int64)) :=
  gd (inb (nI 0) 64) (gd (ltq ((nI 0).toNatClampNeg) 64) (bd (f_J7_fill_d0a16 (0 : Int64) 13 (M_t_minors ((nI 0).toNatClampNeg))) (fun (q_7 : Nat → Int64) => gd (inb (nI 0) 64) (gd (inb (nI 0) 13) (gd (ltq ((nI 0).toNatClampNeg) 64) (nm (((nI 1) <<< (p1_vertices &&& 31)) - (nI 1)) (fun (x_27 : Int32) => bd (wh (b_X6_makeFrom_30 p1_vertices p1_edges a_p1_firsts a_p1_seconds x_27) ((nI 1), updM (updM M_t_minors ((nI 0).toNatClampNeg) q_7) ((nI 0).toNatClampNeg) (vp_updL ((updM M_t_minors ((nI 0).toNatClampNeg) q_7) ((nI 0).toNatClampNeg)) (nI 0).toNatClampNeg (1 : Int64)))) (fun (r_30 : Nat → Nat → Int64) => bd (f_J7_fill_d0a16 (0 : Int64) 19 a_t_coefficients) (fun (q_52 : Nat → Int64) => gd (inb x_27 64) (gd (ltq x_27.toNatClampNeg 64) (some (va_cpy (r_30 x_27.toNatClampNeg) q_52 0 0 13, r_30))))))))))))
theorem yq_X6_makeFrom : yq yX6_makeFrom 1 := by unfold yq; decide +kernel
set_option maxHeartbeats 4000000 in
set_option maxRecDepth 100000 in
theorem c_X6_makeFrom (g : GG) (l : Launch) (h_t : Nat) (h_t_coefficients : Nat) (h_t_minors : Nat) (h_p1 : Nat) (h_p1_firsts : Nat) (h_p1_seconds : Nat) (h_p1_signs : Nat) (ra_h_t_minors : Nat → Nat) (a_t_coefficients : Nat → Int64) (p1_vertices : Int32) (p1_edges : Int32) (a_p1_firsts : Nat → Int32) (a_p1_seconds : Nat → Int32) (M_t_minors : Nat → Nat → Int64) {R : (Nat → Int64) × (Nat → Nat → Int64)} (hM : f_X6_makeFrom a_t_coefficients p1_vertices p1_edges a_p1_firsts a_p1_seconds M_t_minors = some R) : CT g l yX6_makeFrom cX6_makeFrom 4 none 3 79 [.ref h_t, .ref h_p1] ([ob h_t 6 [.ref h_t_coefficients, .ref h_t_minors], aJ g h_t_coefficients 19 a_t_coefficients, ob h_p1 2 [.int p1_vertices, .int p1_edges, .ref h_p1_firsts, .ref h_p1_seconds, .ref h_p1_signs], aI g h_p1_firsts 9 a_p1_firsts, aI g h_p1_seconds 9 a_p1_seconds, aM g h_t_minors 64 (mref ra_h_t_minors)] ++ (mrows g ra_h_t_minors M_t_minors)) ([ob h_t 6 [.ref h_t_coefficients, .ref h_t_minors], aJ g h_t_coefficients 19 R.1, ob h_p1 2 [.int p1_vertices, .int p1_edges, .ref h_p1_firsts, .ref h_p1_seconds, .ref h_p1_signs], aI g h_p1_firsts 9 a_p1_firsts, aI g h_p1_seconds 9 a_p1_seconds, aM g h_t_minors 64 (mref ra_h_t_minors)] ++ (mrows g ra_h_t_minors R.2)) none := by
  refine ct_v (by decide +kernel) (Nat.le_of_ble_eq_true rfl) ?_
  intro p e s m args below meth c Q A ls cx hP hD hA hl hfin
  obtain ⟨hx, hb, hml, hown, hts, hK⟩ := id cx
  have hl : lv_has ls 4 [(0, .ref h_t), (1, .ref h_p1)] := hl
  have hS : va_S A s.heap s.heap [] := va_S.rf
  refine lv_aload_n hx hb dX6_makeFrom_0 rfl (lv_at hl 0 rfl) ?_
  refine w_get cx hP 0 6 1 rfl rfl (by decide) m_197 rfl rfl dX6_makeFrom_1 ?_
  refine lv_iconst (v := (nI 0)) hx hb dX6_makeFrom_4 (by decide) ?_
  obtain ⟨g_5, hM⟩ := gd_some hM
  refine w_aldM cx hP 5 rfl g_5 dX6_makeFrom_5 ?_
  refine lv_lconst (v := (0 : Int64)) hx hb dX6_makeFrom_6 (by decide) ?_
  obtain ⟨gm_7_0, hM⟩ := gd_some hM
  obtain ⟨q_7, hc_7, hM⟩ := bd_some hM
  refine w_callSM cx hP hD hS hA (c_J7_fill_d0a16 g l (ra_h_t_minors ((nI 0).toNatClampNeg)) (0 : Int64) 13 (M_t_minors ((nI 0).toNatClampNeg)) hc_7) [6 + ((nI 0).toNatClampNeg)] (by simp only [List.map_cons, List.map_nil]; rw [mrows_at (k := 6) rfl (ltq_lt gm_7_0)]; try rfl) rfl rfl 0 6 ((nI 0).toNatClampNeg) rfl (ltq_lt gm_7_0) rfl rfl yq_J7_fill_d0a16 m_525 m_376 m_26 m_377 ⟨Nat.le_of_ble_eq_true rfl, Nat.le_of_ble_eq_true rfl⟩ rfl rfl hl.1 (Nat.le_of_ble_eq_true rfl) dX6_makeFrom_7 ⟨Nat.le_refl 0, Nat.le_refl 0⟩ rfl (fun H locs hP hD hS => ?_)
  refine lv_aload_n hx hb dX6_makeFrom_10 rfl (lv_at hl 0 rfl) ?_
  refine w_get cx hP 0 6 1 rfl rfl (by decide) m_197 rfl rfl dX6_makeFrom_11 ?_
  refine lv_iconst (v := (nI 0)) hx hb dX6_makeFrom_14 (by decide) ?_
  obtain ⟨g_15, hM⟩ := gd_some hM
  refine w_aldM cx hP 5 rfl g_15 dX6_makeFrom_15 ?_
  refine lv_iconst (v := (nI 0)) hx hb dX6_makeFrom_16 (by decide) ?_
  refine lv_lconst (v := (1 : Int64)) hx hb dX6_makeFrom_17 (by decide) ?_
  obtain ⟨g_18, hM⟩ := gd_some hM
  obtain ⟨g_18b, hM⟩ := gd_some hM
  refine w_last cx hP hD hS (6 + ((nI 0).toNatClampNeg)) (mrows_at rfl (ltq_lt g_18b)) g_18 dX6_makeFrom_18 ([ob h_t 6 [.ref h_t_coefficients, .ref h_t_minors], aJ g h_t_coefficients 19 a_t_coefficients, ob h_p1 2 [.int p1_vertices, .int p1_edges, .ref h_p1_firsts, .ref h_p1_seconds, .ref h_p1_signs], aI g h_p1_firsts 9 a_p1_firsts, aI g h_p1_seconds 9 a_p1_seconds, aM g h_t_minors 64 (mref ra_h_t_minors)] ++ (mrows g ra_h_t_minors (updM (updM M_t_minors ((nI 0).toNatClampNeg) q_7) ((nI 0).toNatClampNeg) (vp_updL ((updM M_t_minors ((nI 0).toNatClampNeg) q_7) ((nI 0).toNatClampNeg)) (nI 0).toNatClampNeg (1 : Int64))))) (mrows_set rfl (ltq_lt g_18b)) (fun H locs hP hD hS => ?_)
  refine lv_iconst (v := (nI 1)) hx hb dX6_makeFrom_19 (by decide) ?_
  refine lv_aload_n hx hb dX6_makeFrom_20 rfl (lv_at hl 1 rfl) ?_
  refine w_getN cx hP 2 2 0 rfl rfl (by decide) n_46 rfl rfl dX6_makeFrom_21 ?_
  refine lv_ishl hx hb dX6_makeFrom_24 ?_
  refine lv_iconst (v := (nI 1)) hx hb dX6_makeFrom_25 (by decide) ?_
  refine lv_isub hx hb dX6_makeFrom_26 ?_
  refine lv_topi (fun x_27 ex_27 => ?_)
  have hM := nm_some hM x_27 ex_27
  refine lv_istore_n (lv' := [(2, .int x_27), (0, .ref h_t), (1, .ref h_p1)]) hx hb dX6_makeFrom_27 rfl hl (by decide) rfl (fun ls hl => ?_)
  refine lv_iconst (v := (nI 1)) hx hb dX6_makeFrom_28 (by decide) ?_
  refine lv_istore_n (lv' := [(3, .int (nI 1)), (2, .int x_27), (0, .ref h_t), (1, .ref h_p1)]) hx hb dX6_makeFrom_29 rfl hl (by decide) rfl (fun ls hl => ?_)
  obtain ⟨r_30, hw, hM⟩ := bd_some hM
  obtain ⟨n, hn⟩ := wh_some hw
  clear hw
  have hE_30_0 : ∀ (H : Heap) (locs : List Loc) (ls : Array Slot), va_P (gD g) vwCl ([ob h_t 6 [.ref h_t_coefficients, .ref h_t_minors], aJ g h_t_coefficients 19 a_t_coefficients, ob h_p1 2 [.int p1_vertices, .int p1_edges, .ref h_p1_firsts, .ref h_p1_seconds, .ref h_p1_signs], aI g h_p1_firsts 9 a_p1_firsts, aI g h_p1_seconds 9 a_p1_seconds, aM g h_t_minors 64 (mref ra_h_t_minors)] ++ (mrows g ra_h_t_minors r_30)) H → va_D A ([ob h_t 6 [.ref h_t_coefficients, .ref h_t_minors], aJ g h_t_coefficients 19 a_t_coefficients, ob h_p1 2 [.int p1_vertices, .int p1_edges, .ref h_p1_firsts, .ref h_p1_seconds, .ref h_p1_signs], aI g h_p1_firsts 9 a_p1_firsts, aI g h_p1_seconds 9 a_p1_seconds, aM g h_t_minors 64 (mref ra_h_t_minors)] ++ (mrows g ra_h_t_minors r_30)) → va_S A s.heap H locs → lv_has ls 4 [(2, .int x_27), (0, .ref h_t)] → W p l e (rmv 3 79) s m args below meth c H locs 0 0 Q (F0 m 47 ls []) := by
    intro H locs ls hP hD hS hl
    refine lv_aload_n hx hb dX6_makeFrom_47 rfl (lv_at hl 1 rfl) ?_
    refine w_get cx hP 0 6 0 rfl rfl (by decide) m_195 rfl rfl dX6_makeFrom_48 ?_
    refine lv_lconst (v := (0 : Int64)) hx hb dX6_makeFrom_51 (by decide) ?_
    obtain ⟨q_52, hc_52, hM⟩ := bd_some hM
    refine w_callS cx hP hD hS hA (c_J7_fill_d0a16 g l h_t_coefficients (0 : Int64) 19 a_t_coefficients hc_52) [1] rfl (by decide) rfl ([ob h_t 6 [.ref h_t_coefficients, .ref h_t_minors], aJ g h_t_coefficients 19 q_52, ob h_p1 2 [.int p1_vertices, .int p1_edges, .ref h_p1_firsts, .ref h_p1_seconds, .ref h_p1_signs], aI g h_p1_firsts 9 a_p1_firsts, aI g h_p1_seconds 9 a_p1_seconds, aM g h_t_minors 64 (mref ra_h_t_minors)] ++ (mrows g ra_h_t_minors r_30)) rfl yq_J7_fill_d0a16 m_525 m_376 m_26 m_377 ⟨Nat.le_of_ble_eq_true rfl, Nat.le_of_ble_eq_true rfl⟩ rfl rfl hl.1 (Nat.le_of_ble_eq_true rfl) dX6_makeFrom_52 ⟨Nat.le_refl 0, Nat.le_refl 0⟩ rfl (fun H locs hP hD hS => ?_)
    refine lv_aload_n hx hb dX6_makeFrom_55 rfl (lv_at hl 1 rfl) ?_
    refine w_get cx hP 0 6 1 rfl rfl (by decide) m_197 rfl rfl dX6_makeFrom_56 ?_
    refine lv_iload_n hx hb dX6_makeFrom_59 rfl (lv_at hl 0 rfl) ?_
    obtain ⟨g_60, hM⟩ := gd_some hM
    refine w_aldM cx hP 5 rfl g_60 dX6_makeFrom_60 ?_
    refine lv_iconst (v := (nI 0)) hx hb dX6_makeFrom_61 (by decide) ?_
    refine lv_aload_n hx hb dX6_makeFrom_62 rfl (lv_at hl 1 rfl) ?_
    refine w_get cx hP 0 6 0 rfl rfl (by decide) m_195 rfl rfl dX6_makeFrom_63 ?_
    refine lv_iconst (v := (nI 0)) hx hb dX6_makeFrom_66 (by decide) ?_
    refine lv_bipush (v := (nI 13)) hx hb dX6_makeFrom_67 (by decide) ?_
    obtain ⟨gm_69, hM⟩ := gd_some hM
    refine va_copyl hx hb (cx.2.2.1.trans hl.1.symm) hown (hts _ m_547) (hts _ m_549) (hts _ m_548) (hts _ m_28) cx.2.2.2.2.2.1 hP hD hS (6 + x_27.toNatClampNeg) 1 1 1 (mrows_at rfl (ltq_lt gm_69)) rfl rfl rfl rfl (by decide) (by decide) (by decide) (by decide) (by decide) (fun _ _ => rfl) (by decide) (by decide) dX6_makeFrom_69 (fun H locs hP hD hS => ?_)
    have hP : va_P (gD g) vwCl ([ob h_t 6 [.ref h_t_coefficients, .ref h_t_minors], aJ g h_t_coefficients 19 (va_cpy (r_30 x_27.toNatClampNeg) q_52 0 0 13), ob h_p1 2 [.int p1_vertices, .int p1_edges, .ref h_p1_firsts, .ref h_p1_seconds, .ref h_p1_signs], aI g h_p1_firsts 9 a_p1_firsts, aI g h_p1_seconds 9 a_p1_seconds, aM g h_t_minors 64 (mref ra_h_t_minors)] ++ (mrows g ra_h_t_minors r_30)) H := hP
    have hD : va_D A ([ob h_t 6 [.ref h_t_coefficients, .ref h_t_minors], aJ g h_t_coefficients 19 (va_cpy (r_30 x_27.toNatClampNeg) q_52 0 0 13), ob h_p1 2 [.int p1_vertices, .int p1_edges, .ref h_p1_firsts, .ref h_p1_seconds, .ref h_p1_signs], aI g h_p1_firsts 9 a_p1_firsts, aI g h_p1_seconds 9 a_p1_seconds, aM g h_t_minors 64 (mref ra_h_t_minors)] ++ (mrows g ra_h_t_minors r_30)) := hD
    obtain rfl := Option.some.inj hM
    exact hfin 72 _ _ _ dX6_makeFrom_72 hP hD hS
  clear hM
  have hL_30 : ∀ (n : Nat) (z_30 : Int32 × (Nat → Nat → Int64)), it (b_X6_makeFrom_30 p1_vertices p1_edges a_p1_firsts a_p1_seconds x_27) n z_30 = some r_30 → ∀ (H : Heap) (locs : List Loc) (ls : Array Slot), va_P (gD g) vwCl ([ob h_t 6 [.ref h_t_coefficients, .ref h_t_minors], aJ g h_t_coefficients 19 a_t_coefficients, ob h_p1 2 [.int p1_vertices, .int p1_edges, .ref h_p1_firsts, .ref h_p1_seconds, .ref h_p1_signs], aI g h_p1_firsts 9 a_p1_firsts, aI g h_p1_seconds 9 a_p1_seconds, aM g h_t_minors 64 (mref ra_h_t_minors)] ++ (mrows g ra_h_t_minors z_30.2)) H → va_D A ([ob h_t 6 [.ref h_t_coefficients, .ref h_t_minors], aJ g h_t_coefficients 19 a_t_coefficients, ob h_p1 2 [.int p1_vertices, .int p1_edges, .ref h_p1_firsts, .ref h_p1_seconds, .ref h_p1_signs], aI g h_p1_firsts 9 a_p1_firsts, aI g h_p1_seconds 9 a_p1_seconds, aM g h_t_minors 64 (mref ra_h_t_minors)] ++ (mrows g ra_h_t_minors z_30.2)) → va_S A s.heap H locs → lv_has ls 4 [(3, .int z_30.1), (2, .int x_27), (0, .ref h_t), (1, .ref h_p1)] → W p l e (rmv 3 79) s m args below meth c H locs 0 0 Q (F0 m 30 ls []) := by
    intro n
    induction n with
    | zero => intro z_30 hn; exact (it_zero hn).elim
    | succ n ih =>
      intro z_30 hn H locs ls hP hD hS hl
      obtain ⟨x, hM, hX⟩ := it_succ hn
      clear hn
      refine lv_iload_n hx hb dX6_makeFrom_30 rfl (lv_at hl 0 rfl) ?_
      refine lv_iload_n hx hb dX6_makeFrom_31 rfl (lv_at hl 1 rfl) ?_
      refine lv_icmp_gt (tgt := 47) hx hb dX6_makeFrom_32 (by decide) (fun c_32 => ?_) (fun c_32 => ?_)
      · have hM := if_t hM c_32
        obtain rfl := Option.some.inj hM
        obtain rfl : _ = r_30 := hX
        exact hE_30_0 _ _ _ hP hD hS (lv_sub hl [1, 2] rfl)
      · have hM := if_f hM c_32
        refine lv_aload_n hx hb dX6_makeFrom_35 rfl (lv_at hl 2 rfl) ?_
        refine lv_aload_n hx hb dX6_makeFrom_36 rfl (lv_at hl 3 rfl) ?_
        refine lv_iload_n hx hb dX6_makeFrom_37 rfl (lv_at hl 0 rfl) ?_
        obtain ⟨q_38, hc_38, hM⟩ := bd_some hM
        refine w_callV cx hP hD hS hA (c_X6_makeMinor g l h_t h_t_coefficients h_t_minors h_p1 h_p1_firsts h_p1_seconds h_p1_signs ra_h_t_minors z_30.1 p1_vertices p1_edges a_p1_firsts a_p1_seconds z_30.2 hc_38) ([0, 2, 3, 4, 5] ++ blk 6 64) (blk_C rfl mrows_len rfl) (blk_nd (by decide) (by decide)) (blk_f rfl mrows_f) ([ob h_t 6 [.ref h_t_coefficients, .ref h_t_minors], aJ g h_t_coefficients 19 a_t_coefficients, ob h_p1 2 [.int p1_vertices, .int p1_edges, .ref h_p1_firsts, .ref h_p1_seconds, .ref h_p1_signs], aI g h_p1_firsts 9 a_p1_firsts, aI g h_p1_seconds 9 a_p1_seconds, aM g h_t_minors 64 (mref ra_h_t_minors)] ++ (mrows g ra_h_t_minors q_38)) (blk_S rfl mrows_len mrows_len rfl (by decide) rfl) 0 6 rfl rfl yq_X6_makeMinor rfl m_526 m_528 m_14 m_25 m_529 ⟨Nat.le_of_ble_eq_true rfl, Nat.le_of_ble_eq_true rfl⟩ rfl rfl hl.1 (Nat.le_of_ble_eq_true rfl) dX6_makeFrom_38 ⟨Nat.le_refl 0, Nat.le_refl 0⟩ rfl (fun H locs hP hD hS => ?_)
        refine lv_iinc (v := z_30.1 + (nI 1)) (lv' := [(3, .int (z_30.1 + (nI 1))), (2, .int x_27), (0, .ref h_t), (1, .ref h_p1)]) hx hb dX6_makeFrom_41 hl (k := 0) rfl (congrArg (fun q => z_30.1 + q) (show Int32.ofInt (1) = (nI 1) by decide)) (by decide) rfl (fun ls hl => ?_)
        refine lv_goto (tgt := 30) hx hb dX6_makeFrom_44 (by decide) ?_
        obtain rfl := Option.some.inj hM
        exact ih _ hX _ _ _ hP hD hS (lv_sub hl [0, 1, 2, 3] rfl)
  exact hL_30 n _ hn _ _ _ hP hD hS (lv_sub hl [0, 1, 2, 3] rfl)
