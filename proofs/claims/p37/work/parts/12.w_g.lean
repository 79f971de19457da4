noncomputable def b_X5_extend_37 (Frec : Int32 → Int32 → Int32 → Int32 → (Nat → Int32) → Int32 → Int32 → (Nat → Int32) → (Nat → Int32) → (Nat → Int32) → Option (Int32 × Int32 × (Nat → Int32))) (p2 : Int32) (p3 : Int32) (p4 : Int32) (p1_vertices : Int32) (p1_edges : Int32) (a_p1_firsts : Nat → Int32) (a_p1_seconds : Nat → Int32) (a_p1_signs : Nat → Int32) (j_15 : Int32) : Int32 × Int32 × (Nat → Int32) → Option ((Int32 × Int32 × (Nat → Int32)) ⊕ ((Int32 × (Nat → Int32)) ⊕ (Int32 × (Nat → Int32)))) := fun z_37 =>
  if ((nI 2) * p1_edges) ≤ z_37.1 then some (.inr (.inr (z_37.2.1, z_37.2.2))) else if p3 ≤ 0 then gd (inb p3 5) (bd (if p3 ≤ 0 then some (nI 0) else if z_37.1 = j_15 then some (nI 1) else some (nI 0)) (fun (j_81 : Int32) => bd (if j_81 = 0 then some (p3 + (nI 1)) else some p4) (fun (j_106 : Int32) => bd (Frec p2 (p3 + (nI 1)) j_106 z_37.2.1 (upd z_37.2.2 p3.toNatClampNeg z_37.1) p1_vertices p1_edges a_p1_firsts a_p1_seconds a_p1_signs) (fun (q_117 : Int32 × Int32 × (Nat → Int32)) => if q_117.1 = 0 then some (.inl (z_37.1 + (nI 1), q_117.2.1, q_117.2.2)) else some (.inr (.inl (q_117.2.1, q_117.2.2))))))) else gd (inb (p3 - (nI 1)) 5) (bd (f_X2_leadsOn (z_37.2.2 (p3 - (nI 1)).toNatClampNeg) z_37.1 p1_vertices p1_edges a_p1_firsts a_p1_seconds) (fun (q_63 : Int32) => if q_63 = 0 then some (.inl (z_37.1 + (nI 1), z_37.2.1, z_37.2.2)) else gd (inb p3 5) (bd (if p3 ≤ 0 then some (nI 0) else if z_37.1 = j_15 then some (nI 1) else some (nI 0)) (fun (j_81 : Int32) => bd (if j_81 = 0 then some (p3 + (nI 1)) else some p4) (fun (j_106 : Int32) => bd (Frec p2 (p3 + (nI 1)) j_106 z_37.2.1 (upd z_37.2.2 p3.toNatClampNeg z_37.1) p1_vertices p1_edges a_p1_firsts a_p1_seconds a_p1_signs) (fun (q_117 : Int32 × Int32 × (Nat → Int32)) => if q_117.1 = 0 then some (.inl (z_37.1 + (nI 1), q_117.2.1, q_117.2.2)) else some (.inr (.inl (q_117.2.1, q_117.2.2)))))))))
noncomputable def f_X5_extend : Nat → Int32 → Int32 → Int32 → Int32 → (Nat → Int32) → Int32 → Int32 → (Nat → Int32) → (Nat → Int32) → (Nat → Int32) → Option (Int32 × Int32 × (Nat → Int32))
  | 0, _, _, _, _, _, _, _, _, _, _ => none
  | d + 1, p2, p3, p4, t_toSkip, a_t_word, p1_vertices, p1_edges, a_p1_firsts, a_p1_seconds, a_p1_signs =>
  if p3 < p2 then bd (if p3 = 0 then some (nI 0) else gd (inb (p3 - p4) 5) (some (a_t_word (p3 - p4).toNatClampNeg))) (fun (j_15 : Int32) => bd (wh (b_X5_extend_37 (f_X5_extend d) p2 p3 p4 p1_vertices p1_edges a_p1_firsts a_p1_seconds a_p1_signs j_15) (j_15, t_toSkip, a_t_word)) (fun (r_37 : (Int32 × (Nat → Int32)) ⊕ (Int32 × (Nat → Int32))) => ex2 r_37 (fun (r_37_0 : Int32 × (Nat → Int32)) => some ((nI 1), r_37_0.1, r_37_0.2)) (fun (r_37_1 : Int32 × (Nat → Int32)) => some ((nI 0), r_37_1.1, r_37_1.2)))) else bd (f_X5_isWanted p2 p4 t_toSkip a_t_word p1_vertices p1_edges a_p1_firsts a_p1_seconds) (fun (q_10 : Int32 × Int32) => gd (bq q_10.1) (some (q_10.1, q_10.2, a_t_word)))
theorem yq_X5_extend : yq yX5_extend 4 := by unfold yq; decide +kernel
set_option maxHeartbeats 4000000 in
set_option maxRecDepth 100000 in
theorem c_X5_extend (g : GG) (l : Launch) : ∀ (d : Nat) (h_t : Nat) (h_t_word : Nat) (h_p1 : Nat) (h_p1_firsts : Nat) (h_p1_seconds : Nat) (h_p1_signs : Nat) (p2 : Int32) (p3 : Int32) (p4 : Int32) (t_toSkip : Int32) (a_t_word : Nat → Int32) (p1_vertices : Int32) (p1_edges : Int32) (a_p1_firsts : Nat → Int32) (a_p1_seconds : Nat → Int32) (a_p1_signs : Nat → Int32) {R : Int32 × Int32 × (Nat → Int32)} (hM : f_X5_extend d p2 p3 p4 t_toSkip a_t_word p1_vertices p1_edges a_p1_firsts a_p1_seconds a_p1_signs = some R), CT g l yX5_extend cX5_extend 8 (some .boolean) (d + 3) (27 * d + 66) [.ref h_t, .ref h_p1, .int p2, .int p3, .int p4] [ob h_t 5 [.ref h_t_word, .int t_toSkip], aI g h_t_word 5 a_t_word, ob h_p1 2 [.int p1_vertices, .int p1_edges, .ref h_p1_firsts, .ref h_p1_seconds, .ref h_p1_signs], aI g h_p1_firsts 9 a_p1_firsts, aI g h_p1_seconds 9 a_p1_seconds, aI g h_p1_signs 9 a_p1_signs] [ob h_t 5 [.ref h_t_word, .int R.2.1], aI g h_t_word 5 R.2.2, ob h_p1 2 [.int p1_vertices, .int p1_edges, .ref h_p1_firsts, .ref h_p1_seconds, .ref h_p1_signs], aI g h_p1_firsts 9 a_p1_firsts, aI g h_p1_seconds 9 a_p1_seconds, aI g h_p1_signs 9 a_p1_signs] (some (.int R.1)) := by
  intro d
  induction d with
  | zero => intro h_t h_t_word h_p1 h_p1_firsts h_p1_seconds h_p1_signs p2 p3 p4 t_toSkip a_t_word p1_vertices p1_edges a_p1_firsts a_p1_seconds a_p1_signs R hM; cases hM
  | succ d ihd =>
    intro h_t h_t_word h_p1 h_p1_firsts h_p1_seconds h_p1_signs p2 p3 p4 t_toSkip a_t_word p1_vertices p1_edges a_p1_firsts a_p1_seconds a_p1_signs R hM
    refine ct_z (by decide +kernel) (Nat.le_of_ble_eq_true rfl) ?_
    intro p e s m args below meth c Q A ls cx hP hD hA hl hfin
    obtain ⟨hx, hb, hml, hown, hts, hK⟩ := id cx
    have hl : lv_has ls 8 [(0, .ref h_t), (1, .ref h_p1), (2, .int p2), (3, .int p3), (4, .int p4)] := hl
    have hS : va_S A s.heap s.heap [] := va_S.rf
    refine lv_iload_n hx hb dX5_extend_0 rfl (lv_at hl 3 rfl) ?_
    refine lv_iload_n hx hb dX5_extend_1 rfl (lv_at hl 2 rfl) ?_
    refine lv_icmp_lt (tgt := 14) hx hb dX5_extend_2 (by decide) (fun c_2 => ?_) (fun c_2 => ?_)
    · have hM := if_t hM c_2
      refine lv_iload_n hx hb dX5_extend_14 rfl (lv_at hl 3 rfl) ?_
      obtain ⟨j_15, hB, hM⟩ := bd_some hM
      have hJ_15 : ∀ (H : Heap) (locs : List Loc) (ls : Array Slot), va_P (gD g) vwCl [ob h_t 5 [.ref h_t_word, .int t_toSkip], aI g h_t_word 5 a_t_word, ob h_p1 2 [.int p1_vertices, .int p1_edges, .ref h_p1_firsts, .ref h_p1_seconds, .ref h_p1_signs], aI g h_p1_firsts 9 a_p1_firsts, aI g h_p1_seconds 9 a_p1_seconds, aI g h_p1_signs 9 a_p1_signs] H → va_D A [ob h_t 5 [.ref h_t_word, .int t_toSkip], aI g h_t_word 5 a_t_word, ob h_p1 2 [.int p1_vertices, .int p1_edges, .ref h_p1_firsts, .ref h_p1_seconds, .ref h_p1_signs], aI g h_p1_firsts 9 a_p1_firsts, aI g h_p1_seconds 9 a_p1_seconds, aI g h_p1_signs 9 a_p1_signs] → va_S A s.heap H locs → lv_has ls 8 [(0, .ref h_t), (1, .ref h_p1), (2, .int p2), (3, .int p3), (4, .int p4)] → W p l e (rmv (d + 1 + 3) (27 * (d + 1) + 66)) s m args below meth c H locs 0 0 Q (F0 m 31 ls [.int j_15]) := by
        intro H locs ls hP hD hS hl
        refine lv_istore (lv' := [(5, .int j_15), (0, .ref h_t), (1, .ref h_p1), (2, .int p2), (3, .int p3), (4, .int p4)]) hx hb dX5_extend_31 hl (by decide) rfl (fun ls hl => ?_)
        refine lv_iload hx hb dX5_extend_33 (lv_at hl 0 rfl) ?_
        refine lv_istore (lv' := [(6, .int j_15), (5, .int j_15), (0, .ref h_t), (1, .ref h_p1), (2, .int p2), (3, .int p3), (4, .int p4)]) hx hb dX5_extend_35 hl (by decide) rfl (fun ls hl => ?_)
        obtain ⟨r_37, hw, hM⟩ := bd_some hM
        obtain ⟨n, hn⟩ := wh_some hw
        clear hw
        have hE_37_0 : ∀ (r_37_0 : Int32 × (Nat → Int32)), r_37 = .inl r_37_0 → ∀ (H : Heap) (locs : List Loc) (ls : Array Slot), va_P (gD g) vwCl [ob h_t 5 [.ref h_t_word, .int r_37_0.1], aI g h_t_word 5 r_37_0.2, ob h_p1 2 [.int p1_vertices, .int p1_edges, .ref h_p1_firsts, .ref h_p1_seconds, .ref h_p1_signs], aI g h_p1_firsts 9 a_p1_firsts, aI g h_p1_seconds 9 a_p1_seconds, aI g h_p1_signs 9 a_p1_signs] H → va_D A [ob h_t 5 [.ref h_t_word, .int r_37_0.1], aI g h_t_word 5 r_37_0.2, ob h_p1 2 [.int p1_vertices, .int p1_edges, .ref h_p1_firsts, .ref h_p1_seconds, .ref h_p1_signs], aI g h_p1_firsts 9 a_p1_firsts, aI g h_p1_seconds 9 a_p1_seconds, aI g h_p1_signs 9 a_p1_signs] → va_S A s.heap H locs → lv_has ls 8 [] → W p l e (rmv (d + 1 + 3) (27 * (d + 1) + 66)) s m args below meth c H locs 0 0 Q (F0 m 123 ls []) := by
          intro r_37_0 hr H locs ls hP hD hS hl
          have hM := ex2_0 hM hr
          refine lv_iconst (v := (nI 1)) hx hb dX5_extend_123 (by decide) ?_
          have hz : bq (nI 1) = true := by decide
          obtain rfl := Option.some.inj hM
          exact hfin 124 _ _ _ dX5_extend_124 hz hP hD hS
        have hE_37_1 : ∀ (r_37_1 : Int32 × (Nat → Int32)), r_37 = .inr r_37_1 → ∀ (H : Heap) (locs : List Loc) (ls : Array Slot), va_P (gD g) vwCl [ob h_t 5 [.ref h_t_word, .int r_37_1.1], aI g h_t_word 5 r_37_1.2, ob h_p1 2 [.int p1_vertices, .int p1_edges, .ref h_p1_firsts, .ref h_p1_seconds, .ref h_p1_signs], aI g h_p1_firsts 9 a_p1_firsts, aI g h_p1_seconds 9 a_p1_seconds, aI g h_p1_signs 9 a_p1_signs] H → va_D A [ob h_t 5 [.ref h_t_word, .int r_37_1.1], aI g h_t_word 5 r_37_1.2, ob h_p1 2 [.int p1_vertices, .int p1_edges, .ref h_p1_firsts, .ref h_p1_seconds, .ref h_p1_signs], aI g h_p1_firsts 9 a_p1_firsts, aI g h_p1_seconds 9 a_p1_seconds, aI g h_p1_signs 9 a_p1_signs] → va_S A s.heap H locs → lv_has ls 8 [] → W p l e (rmv (d + 1 + 3) (27 * (d + 1) + 66)) s m args below meth c H locs 0 0 Q (F0 m 131 ls []) := by
          intro r_37_1 hr H locs ls hP hD hS hl
          have hM := ex2_1 hM hr
          refine lv_iconst (v := (nI 0)) hx hb dX5_extend_131 (by decide) ?_
          have hz : bq (nI 0) = true := by decide
          obtain rfl := Option.some.inj hM
          exact hfin 132 _ _ _ dX5_extend_132 hz hP hD hS
        clear hM
        have hL_37 : ∀ (n : Nat) (z_37 : Int32 × Int32 × (Nat → Int32)), it (b_X5_extend_37 (f_X5_extend d) p2 p3 p4 p1_vertices p1_edges a_p1_firsts a_p1_seconds a_p1_signs j_15) n z_37 = some r_37 → ∀ (H : Heap) (locs : List Loc) (ls : Array Slot), va_P (gD g) vwCl [ob h_t 5 [.ref h_t_word, .int z_37.2.1], aI g h_t_word 5 z_37.2.2, ob h_p1 2 [.int p1_vertices, .int p1_edges, .ref h_p1_firsts, .ref h_p1_seconds, .ref h_p1_signs], aI g h_p1_firsts 9 a_p1_firsts, aI g h_p1_seconds 9 a_p1_seconds, aI g h_p1_signs 9 a_p1_signs] H → va_D A [ob h_t 5 [.ref h_t_word, .int z_37.2.1], aI g h_t_word 5 z_37.2.2, ob h_p1 2 [.int p1_vertices, .int p1_edges, .ref h_p1_firsts, .ref h_p1_seconds, .ref h_p1_signs], aI g h_p1_firsts 9 a_p1_firsts, aI g h_p1_seconds 9 a_p1_seconds, aI g h_p1_signs 9 a_p1_signs] → va_S A s.heap H locs → lv_has ls 8 [(6, .int z_37.1), (5, .int j_15), (0, .ref h_t), (1, .ref h_p1), (2, .int p2), (3, .int p3), (4, .int p4)] → W p l e (rmv (d + 1 + 3) (27 * (d + 1) + 66)) s m args below meth c H locs 0 0 Q (F0 m 37 ls []) := by
          intro n
          induction n with
          | zero => intro z_37 hn; exact (it_zero hn).elim
          | succ n ih =>
            intro z_37 hn H locs ls hP hD hS hl
            obtain ⟨x, hM, hX⟩ := it_succ hn
            clear hn
            refine lv_iload hx hb dX5_extend_37 (lv_at hl 0 rfl) ?_
            refine lv_iconst (v := (nI 2)) hx hb dX5_extend_39 (by decide) ?_
            refine lv_aload_n hx hb dX5_extend_40 rfl (lv_at hl 3 rfl) ?_
            refine w_getN cx hP 2 2 1 rfl rfl (by decide) n_50 rfl rfl dX5_extend_41 ?_
            refine lv_imul hx hb dX5_extend_44 ?_
            refine lv_icmp_ge (tgt := 131) hx hb dX5_extend_45 (by decide) (fun c_45 => ?_) (fun c_45 => ?_)
            · have hM := if_t hM c_45
              obtain rfl := Option.some.inj hM
              obtain rfl : _ = r_37 := hX
              exact hE_37_1 _ rfl _ _ _ hP hD hS (lv_sub hl [] rfl)
            · have hM := if_f hM c_45
              refine lv_iload_n hx hb dX5_extend_48 rfl (lv_at hl 5 rfl) ?_
              refine lv_if_le (tgt := 72) hx hb dX5_extend_49 (by decide) (fun c_49 => ?_) (fun c_49 => ?_)
              · have hM := if_t hM c_49
                refine lv_aload_n hx hb dX5_extend_72 rfl (lv_at hl 2 rfl) ?_
                refine w_get cx hP 0 5 0 rfl rfl (by decide) m_165 rfl rfl dX5_extend_73 ?_
                refine lv_iload_n hx hb dX5_extend_76 rfl (lv_at hl 5 rfl) ?_
                refine lv_iload hx hb dX5_extend_77 (lv_at hl 0 rfl) ?_
                obtain ⟨g_79, hM⟩ := gd_some hM
                refine w_iast cx hP hD hS 1 rfl g_79 dX5_extend_79 [ob h_t 5 [.ref h_t_word, .int z_37.2.1], aI g h_t_word 5 (upd z_37.2.2 p3.toNatClampNeg z_37.1), ob h_p1 2 [.int p1_vertices, .int p1_edges, .ref h_p1_firsts, .ref h_p1_seconds, .ref h_p1_signs], aI g h_p1_firsts 9 a_p1_firsts, aI g h_p1_seconds 9 a_p1_seconds, aI g h_p1_signs 9 a_p1_signs] rfl (fun H locs hP hD hS => ?_)
                refine lv_iload_n hx hb dX5_extend_80 rfl (lv_at hl 5 rfl) ?_
                obtain ⟨j_81, hB, hM⟩ := bd_some hM
                have hJ_81 : ∀ (H : Heap) (locs : List Loc) (ls : Array Slot), va_P (gD g) vwCl [ob h_t 5 [.ref h_t_word, .int z_37.2.1], aI g h_t_word 5 (upd z_37.2.2 p3.toNatClampNeg z_37.1), ob h_p1 2 [.int p1_vertices, .int p1_edges, .ref h_p1_firsts, .ref h_p1_seconds, .ref h_p1_signs], aI g h_p1_firsts 9 a_p1_firsts, aI g h_p1_seconds 9 a_p1_seconds, aI g h_p1_signs 9 a_p1_signs] H → va_D A [ob h_t 5 [.ref h_t_word, .int z_37.2.1], aI g h_t_word 5 (upd z_37.2.2 p3.toNatClampNeg z_37.1), ob h_p1 2 [.int p1_vertices, .int p1_edges, .ref h_p1_firsts, .ref h_p1_seconds, .ref h_p1_signs], aI g h_p1_firsts 9 a_p1_firsts, aI g h_p1_seconds 9 a_p1_seconds, aI g h_p1_signs 9 a_p1_signs] → va_S A s.heap H locs → lv_has ls 8 [(6, .int z_37.1), (5, .int j_15), (0, .ref h_t), (1, .ref h_p1), (2, .int p2), (3, .int p3), (4, .int p4)] → W p l e (rmv (d + 1 + 3) (27 * (d + 1) + 66)) s m args below meth c H locs 0 0 Q (F0 m 96 ls [.int j_81]) := by
                  intro H locs ls hP hD hS hl
                  refine lv_istore (lv' := [(7, .int j_81), (6, .int z_37.1), (5, .int j_15), (0, .ref h_t), (1, .ref h_p1), (2, .int p2), (3, .int p3), (4, .int p4)]) hx hb dX5_extend_96 hl (by decide) rfl (fun ls hl => ?_)
                  refine lv_aload_n hx hb dX5_extend_98 rfl (lv_at hl 3 rfl) ?_
                  refine lv_aload_n hx hb dX5_extend_99 rfl (lv_at hl 4 rfl) ?_
                  refine lv_iload_n hx hb dX5_extend_100 rfl (lv_at hl 5 rfl) ?_
                  refine lv_iload_n hx hb dX5_extend_101 rfl (lv_at hl 6 rfl) ?_
                  refine lv_iconst (v := (nI 1)) hx hb dX5_extend_102 (by decide) ?_
                  refine lv_iadd hx hb dX5_extend_103 ?_
                  refine lv_iload hx hb dX5_extend_104 (lv_at hl 0 rfl) ?_
                  obtain ⟨j_106, hB, hM⟩ := bd_some hM
                  have hJ_106 : ∀ (H : Heap) (locs : List Loc) (ls : Array Slot), va_P (gD g) vwCl [ob h_t 5 [.ref h_t_word, .int z_37.2.1], aI g h_t_word 5 (upd z_37.2.2 p3.toNatClampNeg z_37.1), ob h_p1 2 [.int p1_vertices, .int p1_edges, .ref h_p1_firsts, .ref h_p1_seconds, .ref h_p1_signs], aI g h_p1_firsts 9 a_p1_firsts, aI g h_p1_seconds 9 a_p1_seconds, aI g h_p1_signs 9 a_p1_signs] H → va_D A [ob h_t 5 [.ref h_t_word, .int z_37.2.1], aI g h_t_word 5 (upd z_37.2.2 p3.toNatClampNeg z_37.1), ob h_p1 2 [.int p1_vertices, .int p1_edges, .ref h_p1_firsts, .ref h_p1_seconds, .ref h_p1_signs], aI g h_p1_firsts 9 a_p1_firsts, aI g h_p1_seconds 9 a_p1_seconds, aI g h_p1_signs 9 a_p1_signs] → va_S A s.heap H locs → lv_has ls 8 [(6, .int z_37.1), (5, .int j_15), (0, .ref h_t), (1, .ref h_p1), (2, .int p2), (3, .int p3), (4, .int p4)] → W p l e (rmv (d + 1 + 3) (27 * (d + 1) + 66)) s m args below meth c H locs 0 0 Q (F0 m 117 ls [.int j_106, .int (p3 + (nI 1)), .int p2, .ref h_p1, .ref h_t]) := by
                    intro H locs ls hP hD hS hl
                    obtain ⟨q_117, hc_117, hM⟩ := bd_some hM
                    refine w_callV cx hP hD hS hA (ihd h_t h_t_word h_p1 h_p1_firsts h_p1_seconds h_p1_signs p2 (p3 + (nI 1)) j_106 z_37.2.1 (upd z_37.2.2 p3.toNatClampNeg z_37.1) p1_vertices p1_edges a_p1_firsts a_p1_seconds a_p1_signs hc_117) [0, 1, 2, 3, 4, 5] rfl (by decide) rfl [ob h_t 5 [.ref h_t_word, .int q_117.2.1], aI g h_t_word 5 q_117.2.2, ob h_p1 2 [.int p1_vertices, .int p1_edges, .ref h_p1_firsts, .ref h_p1_seconds, .ref h_p1_signs], aI g h_p1_firsts 9 a_p1_firsts, aI g h_p1_seconds 9 a_p1_seconds, aI g h_p1_signs 9 a_p1_signs] rfl 0 5 rfl rfl yq_X5_extend rfl m_481 m_483 m_11 m_23 m_484 ⟨by show d + 3 + 1 ≤ d + 1 + 3; omega, by show 8 + (8 + 11) + (27 * d + 66) ≤ 27 * (d + 1) + 66; omega⟩ rfl rfl hl.1 (Nat.le_of_ble_eq_true rfl) dX5_extend_117 ⟨Nat.le_refl 0, Nat.le_refl 0⟩ rfl (fun H locs hP hD hS => ?_)
                    refine lv_if_eq (tgt := 125) hx hb dX5_extend_120 (by decide) (fun c_120 => ?_) (fun c_120 => ?_)
                    · have hM := if_t hM c_120
                      refine lv_iinc (v := z_37.1 + (nI 1)) (lv' := [(6, .int (z_37.1 + (nI 1))), (5, .int j_15), (0, .ref h_t), (1, .ref h_p1), (2, .int p2), (3, .int p3), (4, .int p4)]) hx hb dX5_extend_125 hl (k := 0) rfl (congrArg (fun q => z_37.1 + q) (show Int32.ofInt (1) = (nI 1) by decide)) (by decide) rfl (fun ls hl => ?_)
                      refine lv_goto (tgt := 37) hx hb dX5_extend_128 (by decide) ?_
                      obtain rfl := Option.some.inj hM
                      exact ih _ hX _ _ _ hP hD hS (lv_sub hl [0, 1, 2, 3, 4, 5, 6] rfl)
                    · have hM := if_f hM c_120
                      obtain rfl := Option.some.inj hM
                      obtain rfl : _ = r_37 := hX
                      exact hE_37_0 _ rfl _ _ _ hP hD hS (lv_sub hl [] rfl)
                  clear hM
                  have hM := hB
                  clear hB
                  refine lv_if_eq (tgt := 114) hx hb dX5_extend_106 (by decide) (fun c_106 => ?_) (fun c_106 => ?_)
                  · have hM := if_t hM c_106
                    refine lv_iload_n hx hb dX5_extend_114 rfl (lv_at hl 6 rfl) ?_
                    refine lv_iconst (v := (nI 1)) hx hb dX5_extend_115 (by decide) ?_
                    refine lv_iadd hx hb dX5_extend_116 ?_
                    obtain rfl := Option.some.inj hM
                    exact hJ_106 _ _ _ hP hD hS (lv_sub hl [1, 2, 3, 4, 5, 6, 7] rfl)
                  · have hM := if_f hM c_106
                    refine lv_iload hx hb dX5_extend_109 (lv_at hl 7 rfl) ?_
                    refine lv_goto (tgt := 117) hx hb dX5_extend_111 (by decide) ?_
                    obtain rfl := Option.some.inj hM
                    exact hJ_106 _ _ _ hP hD hS (lv_sub hl [1, 2, 3, 4, 5, 6, 7] rfl)
                clear hM
                have hM := hB
                clear hB
                refine lv_if_le (tgt := 95) hx hb dX5_extend_81 (by decide) (fun c_81 => ?_) (fun c_81 => ?_)
                · have hM := if_t hM c_81
                  refine lv_iconst (v := (nI 0)) hx hb dX5_extend_95 (by decide) ?_
                  obtain rfl := Option.some.inj hM
                  exact hJ_81 _ _ _ hP hD hS (lv_sub hl [0, 1, 2, 3, 4, 5, 6] rfl)
                · have hM := if_f hM c_81
                  refine lv_iload hx hb dX5_extend_84 (lv_at hl 0 rfl) ?_
                  refine lv_iload hx hb dX5_extend_86 (lv_at hl 1 rfl) ?_
                  refine lv_icmp_ne (tgt := 95) hx hb dX5_extend_88 (by decide) (fun c_88 => ?_) (fun c_88 => ?_)
                  · have hM := if_f hM c_88
                    refine lv_iconst (v := (nI 0)) hx hb dX5_extend_95 (by decide) ?_
                    obtain rfl := Option.some.inj hM
                    exact hJ_81 _ _ _ hP hD hS (lv_sub hl [0, 1, 2, 3, 4, 5, 6] rfl)
                  · have hM := if_t hM c_88
                    refine lv_iconst (v := (nI 1)) hx hb dX5_extend_91 (by decide) ?_
                    refine lv_goto (tgt := 96) hx hb dX5_extend_92 (by decide) ?_
                    obtain rfl := Option.some.inj hM
                    exact hJ_81 _ _ _ hP hD hS (lv_sub hl [0, 1, 2, 3, 4, 5, 6] rfl)
              · have hM := if_f hM c_49
                refine lv_aload_n hx hb dX5_extend_52 rfl (lv_at hl 3 rfl) ?_
                refine lv_aload_n hx hb dX5_extend_53 rfl (lv_at hl 2 rfl) ?_
                refine w_get cx hP 0 5 0 rfl rfl (by decide) m_165 rfl rfl dX5_extend_54 ?_
                refine lv_iload_n hx hb dX5_extend_57 rfl (lv_at hl 5 rfl) ?_
                refine lv_iconst (v := (nI 1)) hx hb dX5_extend_58 (by decide) ?_
                refine lv_isub hx hb dX5_extend_59 ?_
                obtain ⟨g_60, hM⟩ := gd_some hM
                refine w_iald cx hP 1 rfl g_60 dX5_extend_60 ?_
                refine lv_iload hx hb dX5_extend_61 (lv_at hl 0 rfl) ?_
                obtain ⟨q_63, hc_63, hM⟩ := bd_some hM
                refine w_callV cx hP hD hS hA (c_X2_leadsOn g l h_p1 h_p1_firsts h_p1_seconds h_p1_signs (z_37.2.2 (p3 - (nI 1)).toNatClampNeg) z_37.1 p1_vertices p1_edges a_p1_firsts a_p1_seconds hc_63) [2, 3, 4] rfl (by decide) rfl [ob h_t 5 [.ref h_t_word, .int z_37.2.1], aI g h_t_word 5 z_37.2.2, ob h_p1 2 [.int p1_vertices, .int p1_edges, .ref h_p1_firsts, .ref h_p1_seconds, .ref h_p1_signs], aI g h_p1_firsts 9 a_p1_firsts, aI g h_p1_seconds 9 a_p1_seconds, aI g h_p1_signs 9 a_p1_signs] rfl 2 2 rfl rfl yq_X2_leadsOn rfl m_489 m_432 m_433 m_18 m_434 ⟨by show 1 + 1 ≤ d + 1 + 3; omega, by show 8 + (3 + 11) + 21 ≤ 27 * (d + 1) + 66; omega⟩ rfl rfl hl.1 (Nat.le_of_ble_eq_true rfl) dX5_extend_63 ⟨Nat.le_refl 0, Nat.le_refl 0⟩ rfl (fun H locs hP hD hS => ?_)
                refine lv_if_ne (tgt := 72) hx hb dX5_extend_66 (by decide) (fun c_66 => ?_) (fun c_66 => ?_)
                · have hM := if_f hM c_66
                  refine lv_aload_n hx hb dX5_extend_72 rfl (lv_at hl 2 rfl) ?_
                  refine w_get cx hP 0 5 0 rfl rfl (by decide) m_165 rfl rfl dX5_extend_73 ?_
                  refine lv_iload_n hx hb dX5_extend_76 rfl (lv_at hl 5 rfl) ?_
                  refine lv_iload hx hb dX5_extend_77 (lv_at hl 0 rfl) ?_
                  obtain ⟨g_79, hM⟩ := gd_some hM
                  refine w_iast cx hP hD hS 1 rfl g_79 dX5_extend_79 [ob h_t 5 [.ref h_t_word, .int z_37.2.1], aI g h_t_word 5 (upd z_37.2.2 p3.toNatClampNeg z_37.1), ob h_p1 2 [.int p1_vertices, .int p1_edges, .ref h_p1_firsts, .ref h_p1_seconds, .ref h_p1_signs], aI g h_p1_firsts 9 a_p1_firsts, aI g h_p1_seconds 9 a_p1_seconds, aI g h_p1_signs 9 a_p1_signs] rfl (fun H locs hP hD hS => ?_)
                  refine lv_iload_n hx hb dX5_extend_80 rfl (lv_at hl 5 rfl) ?_
                  obtain ⟨j_81, hB, hM⟩ := bd_some hM
                  have hJ_81 : ∀ (H : Heap) (locs : List Loc) (ls : Array Slot), va_P (gD g) vwCl [ob h_t 5 [.ref h_t_word, .int z_37.2.1], aI g h_t_word 5 (upd z_37.2.2 p3.toNatClampNeg z_37.1), ob h_p1 2 [.int p1_vertices, .int p1_edges, .ref h_p1_firsts, .ref h_p1_seconds, .ref h_p1_signs], aI g h_p1_firsts 9 a_p1_firsts, aI g h_p1_seconds 9 a_p1_seconds, aI g h_p1_signs 9 a_p1_signs] H → va_D A [ob h_t 5 [.ref h_t_word, .int z_37.2.1], aI g h_t_word 5 (upd z_37.2.2 p3.toNatClampNeg z_37.1), ob h_p1 2 [.int p1_vertices, .int p1_edges, .ref h_p1_firsts, .ref h_p1_seconds, .ref h_p1_signs], aI g h_p1_firsts 9 a_p1_firsts, aI g h_p1_seconds 9 a_p1_seconds, aI g h_p1_signs 9 a_p1_signs] → va_S A s.heap H locs → lv_has ls 8 [(6, .int z_37.1), (5, .int j_15), (0, .ref h_t), (1, .ref h_p1), (2, .int p2), (3, .int p3), (4, .int p4)] → W p l e (rmv (d + 1 + 3) (27 * (d + 1) + 66)) s m args below meth c H locs 0 0 Q (F0 m 96 ls [.int j_81]) := by
                    intro H locs ls hP hD hS hl
                    refine lv_istore (lv' := [(7, .int j_81), (6, .int z_37.1), (5, .int j_15), (0, .ref h_t), (1, .ref h_p1), (2, .int p2), (3, .int p3), (4, .int p4)]) hx hb dX5_extend_96 hl (by decide) rfl (fun ls hl => ?_)
                    refine lv_aload_n hx hb dX5_extend_98 rfl (lv_at hl 3 rfl) ?_
                    refine lv_aload_n hx hb dX5_extend_99 rfl (lv_at hl 4 rfl) ?_
                    refine lv_iload_n hx hb dX5_extend_100 rfl (lv_at hl 5 rfl) ?_
                    refine lv_iload_n hx hb dX5_extend_101 rfl (lv_at hl 6 rfl) ?_
                    refine lv_iconst (v := (nI 1)) hx hb dX5_extend_102 (by decide) ?_
                    refine lv_iadd hx hb dX5_extend_103 ?_
                    refine lv_iload hx hb dX5_extend_104 (lv_at hl 0 rfl) ?_
                    obtain ⟨j_106, hB, hM⟩ := bd_some hM
                    have hJ_106 : ∀ (H : Heap) (locs : List Loc) (ls : Array Slot), va_P (gD g) vwCl [ob h_t 5 [.ref h_t_word, .int z_37.2.1], aI g h_t_word 5 (upd z_37.2.2 p3.toNatClampNeg z_37.1), ob h_p1 2 [.int p1_vertices, .int p1_edges, .ref h_p1_firsts, .ref h_p1_seconds, .ref h_p1_signs], aI g h_p1_firsts 9 a_p1_firsts, aI g h_p1_seconds 9 a_p1_seconds, aI g h_p1_signs 9 a_p1_signs] H → va_D A [ob h_t 5 [.ref h_t_word, .int z_37.2.1], aI g h_t_word 5 (upd z_37.2.2 p3.toNatClampNeg z_37.1), ob h_p1 2 [.int p1_vertices, .int p1_edges, .ref h_p1_firsts, .ref h_p1_seconds, .ref h_p1_signs], aI g h_p1_firsts 9 a_p1_firsts, aI g h_p1_seconds 9 a_p1_seconds, aI g h_p1_signs 9 a_p1_signs] → va_S A s.heap H locs → lv_has ls 8 [(6, .int z_37.1), (5, .int j_15), (0, .ref h_t), (1, .ref h_p1), (2, .int p2), (3, .int p3), (4, .int p4)] → W p l e (rmv (d + 1 + 3) (27 * (d + 1) + 66)) s m args below meth c H locs 0 0 Q (F0 m 117 ls [.int j_106, .int (p3 + (nI 1)), .int p2, .ref h_p1, .ref h_t]) := by
                      intro H locs ls hP hD hS hl
                      obtain ⟨q_117, hc_117, hM⟩ := bd_some hM
                      refine w_callV cx hP hD hS hA (ihd h_t h_t_word h_p1 h_p1_firsts h_p1_seconds h_p1_signs p2 (p3 + (nI 1)) j_106 z_37.2.1 (upd z_37.2.2 p3.toNatClampNeg z_37.1) p1_vertices p1_edges a_p1_firsts a_p1_seconds a_p1_signs hc_117) [0, 1, 2, 3, 4, 5] rfl (by decide) rfl [ob h_t 5 [.ref h_t_word, .int q_117.2.1], aI g h_t_word 5 q_117.2.2, ob h_p1 2 [.int p1_vertices, .int p1_edges, .ref h_p1_firsts, .ref h_p1_seconds, .ref h_p1_signs], aI g h_p1_firsts 9 a_p1_firsts, aI g h_p1_seconds 9 a_p1_seconds, aI g h_p1_signs 9 a_p1_signs] rfl 0 5 rfl rfl yq_X5_extend rfl m_481 m_483 m_11 m_23 m_484 ⟨by show d + 3 + 1 ≤ d + 1 + 3; omega, by show 8 + (8 + 11) + (27 * d + 66) ≤ 27 * (d + 1) + 66; omega⟩ rfl rfl hl.1 (Nat.le_of_ble_eq_true rfl) dX5_extend_117 ⟨Nat.le_refl 0, Nat.le_refl 0⟩ rfl (fun H locs hP hD hS => ?_)
                      refine lv_if_eq (tgt := 125) hx hb dX5_extend_120 (by decide) (fun c_120 => ?_) (fun c_120 => ?_)
                      · have hM := if_t hM c_120
                        refine lv_iinc (v := z_37.1 + (nI 1)) (lv' := [(6, .int (z_37.1 + (nI 1))), (5, .int j_15), (0, .ref h_t), (1, .ref h_p1), (2, .int p2), (3, .int p3), (4, .int p4)]) hx hb dX5_extend_125 hl (k := 0) rfl (congrArg (fun q => z_37.1 + q) (show Int32.ofInt (1) = (nI 1) by decide)) (by decide) rfl (fun ls hl => ?_)
                        refine lv_goto (tgt := 37) hx hb dX5_extend_128 (by decide) ?_
                        obtain rfl := Option.some.inj hM
                        exact ih _ hX _ _ _ hP hD hS (lv_sub hl [0, 1, 2, 3, 4, 5, 6] rfl)
                      · have hM := if_f hM c_120
                        obtain rfl := Option.some.inj hM
                        obtain rfl : _ = r_37 := hX
                        exact hE_37_0 _ rfl _ _ _ hP hD hS (lv_sub hl [] rfl)
                    clear hM
                    have hM := hB
                    clear hB
                    refine lv_if_eq (tgt := 114) hx hb dX5_extend_106 (by decide) (fun c_106 => ?_) (fun c_106 => ?_)
                    · have hM := if_t hM c_106
                      refine lv_iload_n hx hb dX5_extend_114 rfl (lv_at hl 6 rfl) ?_
                      refine lv_iconst (v := (nI 1)) hx hb dX5_extend_115 (by decide) ?_
                      refine lv_iadd hx hb dX5_extend_116 ?_
                      obtain rfl := Option.some.inj hM
                      exact hJ_106 _ _ _ hP hD hS (lv_sub hl [1, 2, 3, 4, 5, 6, 7] rfl)
                    · have hM := if_f hM c_106
                      refine lv_iload hx hb dX5_extend_109 (lv_at hl 7 rfl) ?_
                      refine lv_goto (tgt := 117) hx hb dX5_extend_111 (by decide) ?_
                      obtain rfl := Option.some.inj hM
                      exact hJ_106 _ _ _ hP hD hS (lv_sub hl [1, 2, 3, 4, 5, 6, 7] rfl)
                  clear hM
                  have hM := hB
                  clear hB
                  refine lv_if_le (tgt := 95) hx hb dX5_extend_81 (by decide) (fun c_81 => ?_) (fun c_81 => ?_)
                  · have hM := if_t hM c_81
                    refine lv_iconst (v := (nI 0)) hx hb dX5_extend_95 (by decide) ?_
                    obtain rfl := Option.some.inj hM
                    exact hJ_81 _ _ _ hP hD hS (lv_sub hl [0, 1, 2, 3, 4, 5, 6] rfl)
                  · have hM := if_f hM c_81
                    refine lv_iload hx hb dX5_extend_84 (lv_at hl 0 rfl) ?_
                    refine lv_iload hx hb dX5_extend_86 (lv_at hl 1 rfl) ?_
                    refine lv_icmp_ne (tgt := 95) hx hb dX5_extend_88 (by decide) (fun c_88 => ?_) (fun c_88 => ?_)
                    · have hM := if_f hM c_88
                      refine lv_iconst (v := (nI 0)) hx hb dX5_extend_95 (by decide) ?_
                      obtain rfl := Option.some.inj hM
                      exact hJ_81 _ _ _ hP hD hS (lv_sub hl [0, 1, 2, 3, 4, 5, 6] rfl)
                    · have hM := if_t hM c_88
                      refine lv_iconst (v := (nI 1)) hx hb dX5_extend_91 (by decide) ?_
                      refine lv_goto (tgt := 96) hx hb dX5_extend_92 (by decide) ?_
                      obtain rfl := Option.some.inj hM
                      exact hJ_81 _ _ _ hP hD hS (lv_sub hl [0, 1, 2, 3, 4, 5, 6] rfl)
                · have hM := if_t hM c_66
                  refine lv_goto (tgt := 125) hx hb dX5_extend_69 (by decide) ?_
                  refine lv_iinc (v := z_37.1 + (nI 1)) (lv' := [(6, .int (z_37.1 + (nI 1))), (5, .int j_15), (0, .ref h_t), (1, .ref h_p1), (2, .int p2), (3, .int p3), (4, .int p4)]) hx hb dX5_extend_125 hl (k := 0) rfl (congrArg (fun q => z_37.1 + q) (show Int32.ofInt (1) = (nI 1) by decide)) (by decide) rfl (fun ls hl => ?_)
                  refine lv_goto (tgt := 37) hx hb dX5_extend_128 (by decide) ?_
                  obtain rfl := Option.some.inj hM
                  exact ih _ hX _ _ _ hP hD hS (lv_sub hl [0, 1, 2, 3, 4, 5, 6] rfl)
        exact hL_37 n _ hn _ _ _ hP hD hS (lv_sub hl [0, 1, 2, 3, 4, 5, 6] rfl)
      clear hM
      have hM := hB
      clear hB
      refine lv_if_ne (tgt := 22) hx hb dX5_extend_15 (by decide) (fun c_15 => ?_) (fun c_15 => ?_)
      · have hM := if_f hM c_15
        refine lv_aload_n hx hb dX5_extend_22 rfl (lv_at hl 0 rfl) ?_
        refine w_get cx hP 0 5 0 rfl rfl (by decide) m_165 rfl rfl dX5_extend_23 ?_
        refine lv_iload_n hx hb dX5_extend_26 rfl (lv_at hl 3 rfl) ?_
        refine lv_iload hx hb dX5_extend_27 (lv_at hl 4 rfl) ?_
        refine lv_isub hx hb dX5_extend_29 ?_
        obtain ⟨g_30, hM⟩ := gd_some hM
        refine w_iald cx hP 1 rfl g_30 dX5_extend_30 ?_
        obtain rfl := Option.some.inj hM
        exact hJ_15 _ _ _ hP hD hS (lv_sub hl [0, 1, 2, 3, 4] rfl)
      · have hM := if_t hM c_15
        refine lv_iconst (v := (nI 0)) hx hb dX5_extend_18 (by decide) ?_
        refine lv_goto (tgt := 31) hx hb dX5_extend_19 (by decide) ?_
        obtain rfl := Option.some.inj hM
        exact hJ_15 _ _ _ hP hD hS (lv_sub hl [0, 1, 2, 3, 4] rfl)
    · have hM := if_f hM c_2
      refine lv_aload_n hx hb dX5_extend_5 rfl (lv_at hl 0 rfl) ?_
      refine lv_aload_n hx hb dX5_extend_6 rfl (lv_at hl 1 rfl) ?_
      refine lv_iload_n hx hb dX5_extend_7 rfl (lv_at hl 2 rfl) ?_
      refine lv_iload hx hb dX5_extend_8 (lv_at hl 4 rfl) ?_
      obtain ⟨q_10, hc_10, hM⟩ := bd_some hM
      refine w_callV cx hP hD hS hA (c_X5_isWanted g l h_t h_t_word h_p1 h_p1_firsts h_p1_seconds h_p1_signs p2 p4 t_toSkip a_t_word p1_vertices p1_edges a_p1_firsts a_p1_seconds hc_10) [0, 1, 2, 3, 4] rfl (by decide) rfl [ob h_t 5 [.ref h_t_word, .int q_10.2], aI g h_t_word 5 a_t_word, ob h_p1 2 [.int p1_vertices, .int p1_edges, .ref h_p1_firsts, .ref h_p1_seconds, .ref h_p1_signs], aI g h_p1_firsts 9 a_p1_firsts, aI g h_p1_seconds 9 a_p1_seconds, aI g h_p1_signs 9 a_p1_signs] rfl 0 5 rfl rfl yq_X5_isWanted rfl m_485 m_487 m_12 m_23 m_488 ⟨by show 2 + 1 ≤ d + 1 + 3; omega, by show 8 + (4 + 11) + 43 ≤ 27 * (d + 1) + 66; omega⟩ rfl rfl hl.1 (Nat.le_of_ble_eq_true rfl) dX5_extend_10 ⟨Nat.le_refl 0, Nat.le_refl 0⟩ rfl (fun H locs hP hD hS => ?_)
      obtain ⟨hz, hM⟩ := gd_some hM
      obtain rfl := Option.some.inj hM
      exact hfin 13 _ _ _ dX5_extend_13 hz hP hD hS
noncomputable def f_X5_find (p2 : Int32) (p3 : Int32) (t_toSkip : Int32) (a_t_word : Nat → Int32) (p1_vertices : Int32) (p1_edges : Int32) (a_p1_firsts : Nat → Int32) (a_p1_seconds : Nat → Int32) (a_p1_signs : Nat → Int32) : Option (Int32 × Int32 × (Nat → Int32)) :=
  bd (f_X5_extend 7 p2 (nI 0) (nI 1) p3 a_t_word p1_vertices p1_edges a_p1_firsts a_p1_seconds a_p1_signs) (fun (q_10 : Int32 × Int32 × (Nat → Int32)) => gd (bq q_10.1) (some (q_10.1, q_10.2.1, q_10.2.2)))
theorem yq_X5_find : yq yX5_find 3 := by unfold yq; decide +kernel
set_option maxHeartbeats 4000000 in
set_option maxRecDepth 100000 in
theorem c_X5_find (g : GG) (l : Launch) (h_t : Nat) (h_t_word : Nat) (h_p1 : Nat) (h_p1_firsts : Nat) (h_p1_seconds : Nat) (h_p1_signs : Nat) (p2 : Int32) (p3 : Int32) (t_toSkip : Int32) (a_t_word : Nat → Int32) (p1_vertices : Int32) (p1_edges : Int32) (a_p1_firsts : Nat → Int32) (a_p1_seconds : Nat → Int32) (a_p1_signs : Nat → Int32) {R : Int32 × Int32 × (Nat → Int32)} (hM : f_X5_find p2 p3 t_toSkip a_t_word p1_vertices p1_edges a_p1_firsts a_p1_seconds a_p1_signs = some R) : CT g l yX5_find cX5_find 4 (some .boolean) 11 282 [.ref h_t, .ref h_p1, .int p2, .int p3] [ob h_t 5 [.ref h_t_word, .int t_toSkip], aI g h_t_word 5 a_t_word, ob h_p1 2 [.int p1_vertices, .int p1_edges, .ref h_p1_firsts, .ref h_p1_seconds, .ref h_p1_signs], aI g h_p1_firsts 9 a_p1_firsts, aI g h_p1_seconds 9 a_p1_seconds, aI g h_p1_signs 9 a_p1_signs] [ob h_t 5 [.ref h_t_word, .int R.2.1], aI g h_t_word 5 R.2.2, ob h_p1 2 [.int p1_vertices, .int p1_edges, .ref h_p1_firsts, .ref h_p1_seconds, .ref h_p1_signs], aI g h_p1_firsts 9 a_p1_firsts, aI g h_p1_seconds 9 a_p1_seconds, aI g h_p1_signs 9 a_p1_signs] (some (.int R.1)) := by
  refine ct_z (by decide +kernel) (Nat.le_of_ble_eq_true rfl) ?_
  intro p e s m args below meth c Q A ls cx hP hD hA hl hfin
  obtain ⟨hx, hb, hml, hown, hts, hK⟩ := id cx
  have hl : lv_has ls 4 [(0, .ref h_t), (1, .ref h_p1), (2, .int p2), (3, .int p3)] := hl
  have hS : va_S A s.heap s.heap [] := va_S.rf
  refine lv_aload_n hx hb dX5_find_0 rfl (lv_at hl 0 rfl) ?_
  refine lv_iload_n hx hb dX5_find_1 rfl (lv_at hl 3 rfl) ?_
  refine w_put cx hP hD hS 0 5 1 rfl rfl (by decide) m_167 rfl rfl rfl (Nat.le_of_ble_eq_true rfl) dX5_find_2 [ob h_t 5 [.ref h_t_word, .int p3], aI g h_t_word 5 a_t_word, ob h_p1 2 [.int p1_vertices, .int p1_edges, .ref h_p1_firsts, .ref h_p1_seconds, .ref h_p1_signs], aI g h_p1_firsts 9 a_p1_firsts, aI g h_p1_seconds 9 a_p1_seconds, aI g h_p1_signs 9 a_p1_signs] rfl (fun H locs hP hD hS => ?_)
  refine lv_aload_n hx hb dX5_find_5 rfl (lv_at hl 0 rfl) ?_
  refine lv_aload_n hx hb dX5_find_6 rfl (lv_at hl 1 rfl) ?_
  refine lv_iload_n hx hb dX5_find_7 rfl (lv_at hl 2 rfl) ?_
  refine lv_iconst (v := (nI 0)) hx hb dX5_find_8 (by decide) ?_
  refine lv_iconst (v := (nI 1)) hx hb dX5_find_9 (by decide) ?_
  obtain ⟨q_10, hc_10, hM⟩ := bd_some hM
  refine w_callV cx hP hD hS hA (c_X5_extend g l 7 h_t h_t_word h_p1 h_p1_firsts h_p1_seconds h_p1_signs p2 (nI 0) (nI 1) p3 a_t_word p1_vertices p1_edges a_p1_firsts a_p1_seconds a_p1_signs hc_10) [0, 1, 2, 3, 4, 5] rfl (by decide) rfl [ob h_t 5 [.ref h_t_word, .int q_10.2.1], aI g h_t_word 5 q_10.2.2, ob h_p1 2 [.int p1_vertices, .int p1_edges, .ref h_p1_firsts, .ref h_p1_seconds, .ref h_p1_signs], aI g h_p1_firsts 9 a_p1_firsts, aI g h_p1_seconds 9 a_p1_seconds, aI g h_p1_signs 9 a_p1_signs] rfl 0 5 rfl rfl yq_X5_extend rfl m_481 m_483 m_11 m_23 m_484 ⟨Nat.le_of_ble_eq_true rfl, Nat.le_of_ble_eq_true rfl⟩ rfl rfl hl.1 (Nat.le_of_ble_eq_true rfl) dX5_find_10 ⟨Nat.le_refl 0, Nat.le_refl 0⟩ rfl (fun H locs hP hD hS => ?_)
  obtain ⟨hz, hM⟩ := gd_some hM
  obtain rfl := Option.some.inj hM
  exact hfin 13 _ _ _ dX5_find_13 hz hP hD hS
