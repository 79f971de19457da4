set_option maxHeartbeats 4000000 in
set_option maxRecDepth 100000 in
theorem law_turn {g : GG} {p : Program} {l : Launch} {e : Env} {s : State} {m : MethodId} {below : List Frame} {meth : Method} {c : Code} {b Lx : Nat} {xs : Nat → Int32} {Q : State → Prop} (cx : Cx g p s m #[Value.ref b] c cL_law RL 8) (hXs : va_X b Lx xs s s.heap) (hbl : b < s.heap.size) {ho hg : Nat} {α : Nat → Nat} {cells slots : Nat} (hc : cells + 1 ≤ 600000) (hs9 : slots + 9 ≤ 7302250) (hL : Lx ≤ 260) {tn : Nat} (ht : tn < 2) {A : AG} {hs : List AG} {S : QS} (h : RS A hs [] S) (ga : Nat → Int32) (kk : ∀ (A : AG) (hs : List AG) (S : QS) (ga : Nat → Int32) (H : Heap) (locs : List Loc) (ls : Array Slot), RS A hs [] S → va_P (gD g) vwCl (OB g ho α S ++ [aI g hg 32 ga]) H → va_D (fun q : Nat => s.heap.size ≤ q) (OB g ho α S ++ [aI g hg 32 ga]) → va_S (fun q : Nat => s.heap.size ≤ q) s.heap H locs → lv_has ls 8 [(3, .int (nI (tn + 1))), (2, .ref ho), (1, .ref hg), (0, .ref b)] → W p l e room_1 s m #[Value.ref b] below meth c H locs (cells + 1) (slots + 9) Q (F0 m 74 ls [])) : ∀ (H : Heap) (locs : List Loc) (ls : Array Slot), va_P (gD g) vwCl (OB g ho α S ++ [aI g hg 32 ga]) H → va_D (fun q : Nat => s.heap.size ≤ q) (OB g ho α S ++ [aI g hg 32 ga]) → va_S (fun q : Nat => s.heap.size ≤ q) s.heap H locs → lv_has ls 8 [(3, .int (nI tn)), (2, .ref ho), (1, .ref hg), (0, .ref b)] → W p l e room_1 s m #[Value.ref b] below meth c H locs cells slots Q (F0 m 74 ls []) := by
  intro H locs ls hP hD hS hl
  have hx0 := cx.1
  have hb := cx.2.1
  have hA : ∀ q : Nat, s.heap.size ≤ q → (fun q : Nat => s.heap.size ≤ q) q := fun _ h => h
  have hbA : ¬ (fun q : Nat => s.heap.size ≤ q) b := Nat.not_le.mpr hbl
  obtain ⟨⟨S1, ga1⟩, A1, hs1, m1, h1, a2⟩ := p_segB hL xs ht h ga
  obtain ⟨⟨S2, w2⟩, A2, m2, h2⟩ := p_segA hL xs ht h1 a2 ga1 (fun _ => 0)
  refine lv_iload_n hx0 hb dL_law_74 rfl (lv_at hl 0 rfl) ?_
  refine lv_iconst (v := (nI 2)) hx0 hb dL_law_75 (by decide) ?_
  refine lv_icmp_ge (tgt := 362) hx0 hb dL_law_76 (by decide) (fun c_ => ?_) (fun c_ => ?_)
  · rw [nle (by omega) (by omega)] at c_
    exact absurd c_ (by omega)
  · refine segB cx hA ⟨by show cells + 0 ≤ 600000; omega, by show slots + 0 ≤ 7302250; omega⟩ ho hg α Lx xs (nI tn) S 32 ga hXs hbl hbA m1 (fun H locs ls hP hD hS hl => ?_) H locs ls hP hD hS hl
    refine lv_bipush (v := (nI 9)) hx0 hb dL_law_120 (by decide) ?_
    have hP : va_P (gD g) vwCl ((OB g ho α S1 ++ [aI g hg 32 ga1]) ++ []) H := by rw [List.append_nil]; exact hP
    have hD : va_D (fun q : Nat => s.heap.size ≤ q) ((OB g ho α S1 ++ [aI g hg 32 ga1]) ++ []) := by rw [List.append_nil]; exact hD
    refine w_newJ cx (P := OB g ho α S1 ++ [aI g hg 32 ga1]) (G := []) hP hD hS hA (n := nI 9) (N' := 9) (by decide) (by decide) (Nat.le_of_ble_eq_true rfl) (show cells + 1 ≤ room_1.cells from hc) (show slots + 9 ≤ room_1.slots from hs9) dL_law_122 (fun hw H hP hD hS => ?_)
    refine lv_astore (lv' := [(4, .ref hw), (3, .int (nI tn)), (2, .ref ho), (1, .ref hg), (0, .ref b)]) hx0 hb dL_law_124 hl (by decide) rfl (fun ls hl => ?_)
    have eq1 : ((OB g ho α S1 ++ [aI g hg 32 ga1]) ++ [aJ g hw 9 (fun _ => 0)]) ++ [] = OB g ho α S1 ++ [aI g hg 32 ga1, aJ g hw 9 (fun _ => 0)] := by rw [List.append_nil, List.append_assoc]; rfl
    rw [eq1] at hP hD
    refine segA cx hA ⟨by show cells + 1 + 0 ≤ 600000; omega, by show slots + 9 + 0 ≤ 7302250; omega⟩ ho hg hw α Lx xs (nI tn) S1 32 ga1 9 (fun _ => 0) hXs hbl hbA m2 (fun H locs ls hP hD hS hl => ?_) H locs ls hP hD hS hl
    refine lv_iinc (v := nI (tn + 1)) (lv' := [(3, .int (nI (tn + 1))), (2, .ref ho), (1, .ref hg), (0, .ref b)]) hx0 hb dL_law_356 hl (k := 0) rfl ((congrArg (fun q => nI tn + q) (show Int32.ofInt 1 = nI 1 by decide)).trans (nI_add tn 1)) (by decide) rfl (fun ls hl => ?_)
    refine lv_goto (tgt := 74) hx0 hb dL_law_359 (by decide) ?_
    have eq2 : OB g ho α S2 ++ [aI g hg 32 ga1, aJ g hw 9 w2] = (OB g ho α S2 ++ [aI g hg 32 ga1]) ++ [aJ g hw 9 w2] := by rw [List.append_assoc]; rfl
    have hP : va_P (gD g) vwCl ((OB g ho α S2 ++ [aI g hg 32 ga1]) ++ [aJ g hw 9 w2]) H := by rw [← eq2]; exact hP
    have hD : va_D (fun q : Nat => s.heap.size ≤ q) ((OB g ho α S2 ++ [aI g hg 32 ga1]) ++ [aJ g hw 9 w2]) := by rw [← eq2]; exact hD
    exact kk A2 [] S2 ga1 H locs ls h2 (dropP hP) (dropD hD) hS hl
set_option maxHeartbeats 8000000 in
set_option maxRecDepth 100000 in
theorem whole_start {p : Program} {e : Env} {s : State} {m : MethodId} {below : List Frame} {meth : Method} {c : Code} (l : Launch) (hflags : l.flags = flags0) {b L : Nat} {xs : Nat → Int32} (hL : L ≤ 260) (C0 : lw_At p s m meth c b L xs) : W p l e room_1 s m #[Value.ref b] below meth c s.heap [] 0 0 (lw_Z below #[Value.ref b] s) (entryFrame m ([Value.ref b] : List Value).toArray 8) := by
  obtain ⟨hx0, hb, hr, hml, hown, hts, hXs, hbl, hlocks, hgv⟩ := id C0
  obtain ⟨g, hK⟩ := kk_of hts
  have cx : Cx g p s m #[.ref b] c cL_law RL 8 := ⟨hx0, hb, hml, hown, fun w hw => hts w (tbG_sub hw), hK⟩
  have hA : ∀ q : Nat, s.heap.size ≤ q → (fun q : Nat => s.heap.size ≤ q) q := fun _ h => h
  have hS : va_S (fun q : Nat => s.heap.size ≤ q) s.heap s.heap [] := va_S.rf
  have hP : va_P (gD g) vwCl ([] ++ []) s.heap := fun k q h => by simp at h
  have hD : va_D (fun q : Nat => s.heap.size ≤ q) ([] ++ []) := ⟨fun i j p q h => by simp at h, fun k q h => by simp at h⟩
  obtain ⟨S1, e1, r1⟩ := s_undo_no Si_RS
  obtain ⟨S2, e2, r2⟩ := o_vc r1
  obtain ⟨S3, e3, r3⟩ := o_ec r2
  obtain ⟨S4, e4, r4⟩ := p_refused r3
  obtain ⟨Rk, ek⟩ := p_known Si_RS
  obtain ⟨Rt, et⟩ := p_texts Si_RS
  have hl := lv_entry ([.ref b]) (n := 8) (Nat.le_of_ble_eq_true rfl)
  rw [lg_entry_eq]
  generalize (lg_sl ([.ref b]) ++ List.replicate (8 - (lg_sl ([.ref b])).length) Slot.unset).toArray = ls at hl ⊢
  have hl : lv_has ls 8 [(0, .ref b)] := hl
  refine lv_bipush (v := (nI 32)) hx0 hb dL_law_0 (by decide) ?_
  refine w_newI cx (P := []) (G := []) hP hD hS hA (n := nI 32) (N' := 32) (by decide) (by decide) (Nat.le_of_ble_eq_true rfl) (Nat.le_of_ble_eq_true rfl) (Nat.le_of_ble_eq_true rfl) dL_law_2 (fun hg H hP hD hS => ?_)
  refine lv_astore_n (lv' := [(1, .ref hg), (0, .ref b)]) hx0 hb dL_law_4 rfl hl (by decide) rfl (fun ls hl => ?_)
  refine w_newO cx (P := [aI g hg 32 (fun _ => 0)]) (G := []) hP hD hS hA 8 (fs := [.null, .null, .null, .null, .null, .null, .null, .null, .null]) rfl tyX8 tyX8_ok (fun j hj => by rcases (show j = 0 ∨ j = 1 ∨ j = 2 ∨ j = 3 ∨ j = 4 ∨ j = 5 ∨ j = 6 ∨ j = 7 ∨ j = 8 by omega) with rfl | rfl | rfl | rfl | rfl | rfl | rfl | rfl | rfl <;> rfl) m_29 m_30 m_17 (Nat.le_of_ble_eq_true rfl) (Nat.le_of_ble_eq_true rfl) dL_law_5 (fun ho H hP hD hS => ?_)
  refine lv_dup hx0 hb dL_law_8 rfl ?_
  refine w_callN cx (Pr := [aI g hg 32 (fun _ => 0)]) (x := ob ho 8 [.null, .null, .null, .null, .null, .null, .null, .null, .null]) (G := []) hP hD hS hA (c_X8_init g l ho) yq_X8_init rfl m_31 m_32 m_17 m_33 ⟨Nat.le_of_ble_eq_true rfl, Nat.le_of_ble_eq_true rfl⟩ hl.1 (Nat.le_of_ble_eq_true rfl) dL_law_9 ⟨Nat.le_of_ble_eq_true rfl, Nat.le_of_ble_eq_true rfl⟩ (fun α H locs hP hD hS => ?_)
  refine lv_astore_n (lv' := [(2, .ref ho), (1, .ref hg), (0, .ref b)]) hx0 hb dL_law_12 rfl hl (by decide) rfl (fun ls hl => ?_)
  have hP : va_P (gD g) vwCl (OB g ho α Si ++ [aI g hg 32 (fun _ => 0)]) H := perm_P (by rw [List.append_nil, B8_OB]; exact List.perm_append_comm) hP
  have hD : va_D (fun q : Nat => s.heap.size ≤ q) (OB g ho α Si ++ [aI g hg 32 (fun _ => 0)]) := perm_D (by rw [List.append_nil, B8_OB]; exact List.perm_append_comm) hD
  refine lv_aload_n hx0 hb dL_law_13 rfl (lv_at hl 0 rfl) ?_
  refine w_callV cx hP hD hS hA (co_undo g l ho α Si e1) (blk 0 127) pf_C ob_nd (obx_f rfl) (OB g ho α S1 ++ [aI g hg 32 (fun _ => 0)]) pf_S 0 8 rfl rfl yq_X8_undo rfl m_312 m_313 m_314 m_17 m_315 ⟨Nat.le_of_ble_eq_true rfl, Nat.le_of_ble_eq_true rfl⟩ rfl rfl hl.1 (Nat.le_of_ble_eq_true rfl) dL_law_14 ⟨Nat.le_of_ble_eq_true rfl, Nat.le_of_ble_eq_true rfl⟩ rfl (fun H locs hP hD hS => ?_)
  refine lv_bipush (v := (nI 4294967294)) hx0 hb dL_law_17 (by decide) ?_
  refine lv_icmp_ne (tgt := 70) hx0 hb dL_law_19 (by decide) (fun c_ => absurd rfl c_) (fun _ => ?_)
  refine lv_aload_n hx0 hb dL_law_22 rfl (lv_at hl 0 rfl) ?_
  refine w_callV cx hP hD hS hA (co_vertexCount g l ho α S1 e2) (blk 0 127) pf_C ob_nd (obx_f rfl) (OB g ho α S2 ++ [aI g hg 32 (fun _ => 0)]) pf_S 0 8 rfl rfl yq_X8_vertexCount rfl m_320 m_321 m_322 m_17 m_323 ⟨Nat.le_of_ble_eq_true rfl, Nat.le_of_ble_eq_true rfl⟩ rfl rfl hl.1 (Nat.le_of_ble_eq_true rfl) dL_law_23 ⟨Nat.le_of_ble_eq_true rfl, Nat.le_of_ble_eq_true rfl⟩ rfl (fun H locs hP hD hS => ?_)
  refine lv_iconst (v := (nI 4)) hx0 hb dL_law_26 (by decide) ?_
  refine lv_icmp_ne (tgt := 70) hx0 hb dL_law_27 (by decide) (fun c_ => absurd rfl c_) (fun _ => ?_)
  refine lv_aload_n hx0 hb dL_law_30 rfl (lv_at hl 0 rfl) ?_
  refine w_callV cx hP hD hS hA (co_edgeCount g l ho α S2 e3) (blk 0 127) pf_C ob_nd (obx_f rfl) (OB g ho α S3 ++ [aI g hg 32 (fun _ => 0)]) pf_S 0 8 rfl rfl yq_X8_edgeCount rfl m_324 m_325 m_326 m_17 m_327 ⟨Nat.le_of_ble_eq_true rfl, Nat.le_of_ble_eq_true rfl⟩ rfl rfl hl.1 (Nat.le_of_ble_eq_true rfl) dL_law_31 ⟨Nat.le_of_ble_eq_true rfl, Nat.le_of_ble_eq_true rfl⟩ rfl (fun H locs hP hD hS => ?_)
  refine lv_if_ne (tgt := 70) hx0 hb dL_law_34 (by decide) (fun c_ => absurd h00 c_) (fun _ => ?_)
  refine lv_aload_n hx0 hb dL_law_37 rfl (lv_at hl 0 rfl) ?_
  refine w_callS cx hP hD hS hA (c_L_refused g l ho α S3 e4) (blk 0 127) pf_C ob_nd (obx_f rfl) (OB g ho α S4 ++ [aI g hg 32 (fun _ => 0)]) pf_S yq_L_refused m_416 m_417 m_16 m_418 ⟨Nat.le_of_ble_eq_true rfl, Nat.le_of_ble_eq_true rfl⟩ rfl rfl hl.1 (Nat.le_of_ble_eq_true rfl) dL_law_38 ⟨Nat.le_of_ble_eq_true rfl, Nat.le_of_ble_eq_true rfl⟩ rfl (fun H locs hP hD hS => ?_)
  refine lv_if_eq (tgt := 70) hx0 hb dL_law_41 (by decide) (fun c_ => absurd c_ h10) (fun _ => ?_)
  have hP : va_P (gD g) vwCl ((OB g ho α S4 ++ [aI g hg 32 (fun _ => 0)]) ++ []) H := by rw [List.append_nil]; exact hP
  have hD : va_D (fun q : Nat => s.heap.size ≤ q) ((OB g ho α S4 ++ [aI g hg 32 (fun _ => 0)]) ++ []) := by rw [List.append_nil]; exact hD
  refine w_newO cx (P := (OB g ho α S4 ++ [aI g hg 32 (fun _ => 0)])) (G := []) hP hD hS hA 8 (fs := [.null, .null, .null, .null, .null, .null, .null, .null, .null]) rfl tyX8 tyX8_ok (fun j hj => by rcases (show j = 0 ∨ j = 1 ∨ j = 2 ∨ j = 3 ∨ j = 4 ∨ j = 5 ∨ j = 6 ∨ j = 7 ∨ j = 8 by omega) with rfl | rfl | rfl | rfl | rfl | rfl | rfl | rfl | rfl <;> rfl) m_29 m_30 m_17 (Nat.le_of_ble_eq_true rfl) (Nat.le_of_ble_eq_true rfl) dL_law_44 (fun hk H hP hD hS => ?_)
  refine lv_dup hx0 hb dL_law_47 rfl ?_
  refine w_callN cx (Pr := (OB g ho α S4 ++ [aI g hg 32 (fun _ => 0)])) (x := ob hk 8 [.null, .null, .null, .null, .null, .null, .null, .null, .null]) (G := []) hP hD hS hA (c_X8_init g l hk) yq_X8_init rfl m_31 m_32 m_17 m_33 ⟨Nat.le_of_ble_eq_true rfl, Nat.le_of_ble_eq_true rfl⟩ hl.1 (Nat.le_of_ble_eq_true rfl) dL_law_48 ⟨Nat.le_of_ble_eq_true rfl, Nat.le_of_ble_eq_true rfl⟩ (fun αk H locs hP hD hS => ?_)
  have hP : va_P (gD g) vwCl ((OB g ho α S4 ++ [aI g hg 32 (fun _ => 0)]) ++ OB g hk αk Si) H := by rw [List.append_nil, B8_OB] at hP; exact hP
  have hD : va_D (fun q : Nat => s.heap.size ≤ q) ((OB g ho α S4 ++ [aI g hg 32 (fun _ => 0)]) ++ OB g hk αk Si) := by rw [List.append_nil, B8_OB] at hD; exact hD
  refine w_callS cx hP hD hS hA (c_L_known g l hk αk Si ek) (blk 128 127) (sf_C (obx_len rfl)) (nd_range _ _) (obx_f rfl) ((OB g ho α S4 ++ [aI g hg 32 (fun _ => 0)]) ++ OB g hk αk Rk) (sf_S (obx_len rfl)) yq_L_known m_636 m_637 m_16 m_638 ⟨Nat.le_of_ble_eq_true rfl, Nat.le_of_ble_eq_true rfl⟩ rfl rfl hl.1 (Nat.le_of_ble_eq_true rfl) dL_law_51 ⟨Nat.le_of_ble_eq_true rfl, Nat.le_of_ble_eq_true rfl⟩ rfl (fun H locs hP hD hS => ?_)
  have hP := dropP hP
  have hD := dropD hD
  refine lv_if_eq (tgt := 70) hx0 hb dL_law_54 (by decide) (fun c_ => absurd c_ h10) (fun _ => ?_)
  have hP : va_P (gD g) vwCl ((OB g ho α S4 ++ [aI g hg 32 (fun _ => 0)]) ++ []) H := by rw [List.append_nil]; exact hP
  have hD : va_D (fun q : Nat => s.heap.size ≤ q) ((OB g ho α S4 ++ [aI g hg 32 (fun _ => 0)]) ++ []) := by rw [List.append_nil]; exact hD
  refine w_newO cx (P := (OB g ho α S4 ++ [aI g hg 32 (fun _ => 0)])) (G := []) hP hD hS hA 8 (fs := [.null, .null, .null, .null, .null, .null, .null, .null, .null]) rfl tyX8 tyX8_ok (fun j hj => by rcases (show j = 0 ∨ j = 1 ∨ j = 2 ∨ j = 3 ∨ j = 4 ∨ j = 5 ∨ j = 6 ∨ j = 7 ∨ j = 8 by omega) with rfl | rfl | rfl | rfl | rfl | rfl | rfl | rfl | rfl <;> rfl) m_29 m_30 m_17 (Nat.le_of_ble_eq_true rfl) (Nat.le_of_ble_eq_true rfl) dL_law_57 (fun hq H hP hD hS => ?_)
  refine lv_dup hx0 hb dL_law_60 rfl ?_
  refine w_callN cx (Pr := (OB g ho α S4 ++ [aI g hg 32 (fun _ => 0)])) (x := ob hq 8 [.null, .null, .null, .null, .null, .null, .null, .null, .null]) (G := []) hP hD hS hA (c_X8_init g l hq) yq_X8_init rfl m_31 m_32 m_17 m_33 ⟨Nat.le_of_ble_eq_true rfl, Nat.le_of_ble_eq_true rfl⟩ hl.1 (Nat.le_of_ble_eq_true rfl) dL_law_61 ⟨Nat.le_of_ble_eq_true rfl, Nat.le_of_ble_eq_true rfl⟩ (fun αt H locs hP hD hS => ?_)
  have hP : va_P (gD g) vwCl ((OB g ho α S4 ++ [aI g hg 32 (fun _ => 0)]) ++ OB g hq αt Si) H := by rw [List.append_nil, B8_OB] at hP; exact hP
  have hD : va_D (fun q : Nat => s.heap.size ≤ q) ((OB g ho α S4 ++ [aI g hg 32 (fun _ => 0)]) ++ OB g hq αt Si) := by rw [List.append_nil, B8_OB] at hD; exact hD
  refine w_callS cx hP hD hS hA (c_L_texts g l hq αt Si et) (blk 128 127) (sf_C (obx_len rfl)) (nd_range _ _) (obx_f rfl) ((OB g ho α S4 ++ [aI g hg 32 (fun _ => 0)]) ++ OB g hq αt Rt) (sf_S (obx_len rfl)) yq_L_texts m_583 m_584 m_16 m_585 ⟨Nat.le_of_ble_eq_true rfl, Nat.le_of_ble_eq_true rfl⟩ rfl rfl hl.1 (Nat.le_of_ble_eq_true rfl) dL_law_64 ⟨Nat.le_of_ble_eq_true rfl, Nat.le_of_ble_eq_true rfl⟩ rfl (fun H locs hP hD hS => ?_)
  have hP := dropP hP
  have hD := dropD hD
  refine lv_if_ne (tgt := 72) hx0 hb dL_law_67 (by decide) (fun _ => ?_) (fun c_ => absurd c_ h10)
  refine lv_iconst (v := (nI 0)) hx0 hb dL_law_72 (by decide) ?_
  refine lv_istore_n (lv' := [(3, .int (nI 0)), (2, .ref ho), (1, .ref hg), (0, .ref b)]) hx0 hb dL_law_73 rfl hl (by decide) rfl (fun ls hl => ?_)
  refine law_turn cx hXs hbl (Nat.le_of_ble_eq_true rfl) (Nat.le_of_ble_eq_true rfl) hL (tn := 0) (by decide) r4 (fun _ => 0) (fun A hs S ga H locs ls h hP hD hS hl => ?_) H locs ls hP hD hS hl
  refine law_turn cx hXs hbl (Nat.le_of_ble_eq_true rfl) (Nat.le_of_ble_eq_true rfl) hL (tn := 1) (by decide) h ga (fun A hs S ga H locs ls h hP hD hS hl => ?_) H locs ls hP hD hS hl
  refine lv_iload_n hx0 hb dL_law_74 rfl (lv_at hl 0 rfl) ?_
  refine lv_iconst (v := (nI 2)) hx0 hb dL_law_75 (by decide) ?_
  refine lv_icmp_ge (tgt := 362) hx0 hb dL_law_76 (by decide) (fun _ => ?_) (fun c_ => absurd (show nI 2 ≤ nI (1 + 1) by decide) c_)
  refine lv_iconst (v := 1) hx0 hb dL_law_362 (by decide) ?_
  refine va_forget (fun q hq => hS.2.2 q hq) ?_
  refine W.widen (k := 600000) (n := 7302250) (Nat.le_of_ble_eq_true rfl) (Nat.le_of_ble_eq_true rfl) ?_
  exact lw_ret hx0 hb hr hlocks dL_law_363
