theorem cmp_eq {x y : Int64} (h : x = y) : lg_cmp x y = 0 := by subst h; simp [lg_cmp]
set_option maxHeartbeats 4000000 in
set_option maxRecDepth 100000 in
theorem law_configure (pr : Pr_configure) {g : GG} {p : Program} {l : Launch} {e : Env} {s : State} {m : MethodId} {below : List Frame} {meth : Method} {c : Code} {b Lx : Nat} {xs : Nat → Int32} {Q : State → Prop} (lc : LC g p s m c b Lx xs) {hx hm : Nat} {α β : Nat → Nat} {i : Nat} (hL : Lx ≤ 2048) (hi : i + 4 ≤ Lx) {I : Nat → Nat → Int32} {J : Nat → Nat → Int64} {K : Nat → Int32} {L : List Nat} {C : Nat → GC} {Mm : Nat → Nat → Int64} (hI : Inv I K L C) {H : Heap} {locs : List Loc} {ls : Array Slot} (hP : va_P (gD g) vwCl (WW g hx α hm β I J K L C Mm) H) (hD : va_D (fun q => s.heap.size ≤ q) (WW g hx α hm β I J K L C Mm)) (hS : va_S (fun q => s.heap.size ≤ q) s.heap H locs) (hl : lv_has ls 4 [(3, .int (nI i)), (2, .ref hm), (1, .ref hx), (0, .ref b)]) (kk : ∀ (I : Nat → Nat → Int32) (J : Nat → Nat → Int64) (K : Nat → Int32) (L : List Nat) (C : Nat → GC) (Mm : Nat → Nat → Int64) (H : Heap) (locs : List Loc), Inv I K L C → va_P (gD g) vwCl (WW g hx α hm β I J K L C Mm) H → va_D (fun q => s.heap.size ≤ q) (WW g hx α hm β I J K L C Mm) → va_S (fun q => s.heap.size ≤ q) s.heap H locs → W p l e room_1 s m #[Value.ref b] below meth c H locs 146 3014 Q (F0 m 918 ls [])) : W p l e room_1 s m #[Value.ref b] below meth c H locs 146 3014 Q (F0 m 184 ls []) := by
  obtain ⟨cx, hX, hbl⟩ := lc
  have hx0 := cx.1
  have hb := cx.2.1
  have hA : ∀ q : Nat, s.heap.size ≤ q → (fun q : Nat => s.heap.size ≤ q) q := fun _ h => h
  have hbA : ¬ (fun q : Nat => s.heap.size ≤ q) b := Nat.not_le.mpr hbl
  have hin : ∀ k : Nat, k < 4 → vp_in (nI i + nI k) Lx := fun k hk => by rw [nI_add]; exact vp_in_nI (by omega) (by omega)
  obtain ⟨q, r, hq, hr, heq, hI2⟩ := pr I J K L C Mm (xs (nI i + (nI 1)).toNatClampNeg) hI
  refine lv_aload_n hx0 hb dL_law_184 rfl (lv_at hl 2 rfl) ?_
  refine lv_aload_n hx0 hb dL_law_185 rfl (lv_at hl 3 rfl) ?_
  refine lv_iload_n hx0 hb dL_law_186 rfl (lv_at hl 0 rfl) ?_
  refine lv_iconst (v := (nI 1)) hx0 hb dL_law_187 (by decide) ?_
  refine lv_iadd hx0 hb dL_law_188 ?_
  refine va_sld hx0 hb hX hbl hbA hS (hin 1 (by omega)) dL_law_189 ?_
  refine w_callV cx hP hD hS hA (c_X8_configure g l hx (α 0) (α 4) (α 8) (α 9) (α 11) (α 14) (α 21) (α 23) (α 26) (α 1) (α 2) (α 3) (α 29) (fun i => α (30 + 4 * i)) (fun i => α (31 + 4 * i)) (fun i => α (32 + 4 * i)) (fun i => α (33 + 4 * i)) (xs (nI i + (nI 1)).toNatClampNeg) (K 0) (K 1) (I 0) (I 1) (I 2) (K 4) L C hq) ([0, 1, 2, 3, 4, 9] ++ blk 49 33) (mid_C rfl grp_len rfl) (blk_nd (by decide) (by decide)) (blk_f rfl grp_f) (WW g hx α hm β I J (upf (upf (upf K 0 q.2.1) 1 q.2.2.1) 4 q.2.2.2.1) q.2.2.2.2.1 q.2.2.2.2.2 Mm) (mid_S rfl grp_len grp_len rfl (by decide) rfl) 0 8 rfl rfl yq_X8_configure rfl m_257 m_258 m_259 m_42 m_260 ⟨Nat.le_of_ble_eq_true rfl, Nat.le_of_ble_eq_true rfl⟩ rfl rfl hl.1 (Nat.le_of_ble_eq_true rfl) dL_law_190 ⟨Nat.le_of_ble_eq_true rfl, Nat.le_of_ble_eq_true rfl⟩ rfl (fun H locs hP hD hS => ?_)
  refine lv_aload_n hx0 hb dL_law_193 rfl (lv_at hl 1 rfl) ?_
  refine lv_aload_n hx0 hb dL_law_194 rfl (lv_at hl 3 rfl) ?_
  refine lv_iload_n hx0 hb dL_law_195 rfl (lv_at hl 0 rfl) ?_
  refine lv_iconst (v := (nI 1)) hx0 hb dL_law_196 (by decide) ?_
  refine lv_iadd hx0 hb dL_law_197 ?_
  refine va_sld hx0 hb hX hbl hbA hS (hin 1 (by omega)) dL_law_198 ?_
  refine w_callV cx hP hD hS hA (c_X9_configure g l hm (β 0) (β 1) (β 2) (β 3) (β 4) (β 5) (β 6) (β 7) (β 8) (β 9) (β 10) (β 11) (β 12) (β 13) (β 14) (β 15) (β 16) (β 17) (xs (nI i + (nI 1)).toNatClampNeg) (K 11) (K 12) (K 13) (K 14) (I 10) (I 12) hr) [30, 31, 33] (pre_C rfl) (by decide) rfl (WW g hx α hm β (upf (upf I 10 r.2.2.1) 12 r.2.2.2) J (upf (upf (upf (upf K 0 q.2.1) 1 q.2.2.1) 4 q.2.2.2.1) 11 r.2.1) q.2.2.2.2.1 q.2.2.2.2.2 Mm) (pre_S (k := 49) rfl (by decide) rfl) 30 9 rfl rfl yq_X9_configure rfl m_711 m_712 m_713 m_51 m_714 ⟨Nat.le_of_ble_eq_true rfl, Nat.le_of_ble_eq_true rfl⟩ rfl rfl hl.1 (Nat.le_of_ble_eq_true rfl) dL_law_199 ⟨Nat.le_of_ble_eq_true rfl, Nat.le_of_ble_eq_true rfl⟩ rfl (fun H locs hP hD hS => ?_)
  refine lv_icmp_eq (tgt := 918) hx0 hb dL_law_202 (by decide) (fun _ => ?_) (fun c_ => absurd heq c_)
  exact kk (upf (upf I 10 r.2.2.1) 12 r.2.2.2) J (upf (upf (upf (upf K 0 q.2.1) 1 q.2.2.1) 4 q.2.2.2.1) 11 r.2.1) q.2.2.2.2.1 q.2.2.2.2.2 Mm H locs hI2 hP hD hS
set_option maxHeartbeats 4000000 in
set_option maxRecDepth 100000 in
theorem law_addEdge (pr : Pr_addEdge) {g : GG} {p : Program} {l : Launch} {e : Env} {s : State} {m : MethodId} {below : List Frame} {meth : Method} {c : Code} {b Lx : Nat} {xs : Nat → Int32} {Q : State → Prop} (lc : LC g p s m c b Lx xs) {hx hm : Nat} {α β : Nat → Nat} {i : Nat} (hL : Lx ≤ 2048) (hi : i + 4 ≤ Lx) {I : Nat → Nat → Int32} {J : Nat → Nat → Int64} {K : Nat → Int32} {L : List Nat} {C : Nat → GC} {Mm : Nat → Nat → Int64} (hI : Inv I K L C) {H : Heap} {locs : List Loc} {ls : Array Slot} (hP : va_P (gD g) vwCl (WW g hx α hm β I J K L C Mm) H) (hD : va_D (fun q => s.heap.size ≤ q) (WW g hx α hm β I J K L C Mm)) (hS : va_S (fun q => s.heap.size ≤ q) s.heap H locs) (hl : lv_has ls 4 [(3, .int (nI i)), (2, .ref hm), (1, .ref hx), (0, .ref b)]) (kk : ∀ (I : Nat → Nat → Int32) (J : Nat → Nat → Int64) (K : Nat → Int32) (L : List Nat) (C : Nat → GC) (Mm : Nat → Nat → Int64) (H : Heap) (locs : List Loc), Inv I K L C → va_P (gD g) vwCl (WW g hx α hm β I J K L C Mm) H → va_D (fun q => s.heap.size ≤ q) (WW g hx α hm β I J K L C Mm) → va_S (fun q => s.heap.size ≤ q) s.heap H locs → W p l e room_1 s m #[Value.ref b] below meth c H locs 146 3014 Q (F0 m 918 ls [])) : W p l e room_1 s m #[Value.ref b] below meth c H locs 146 3014 Q (F0 m 207 ls []) := by
  obtain ⟨cx, hX, hbl⟩ := lc
  have hx0 := cx.1
  have hb := cx.2.1
  have hA : ∀ q : Nat, s.heap.size ≤ q → (fun q : Nat => s.heap.size ≤ q) q := fun _ h => h
  have hbA : ¬ (fun q : Nat => s.heap.size ≤ q) b := Nat.not_le.mpr hbl
  have hin : ∀ k : Nat, k < 4 → vp_in (nI i + nI k) Lx := fun k hk => by rw [nI_add]; exact vp_in_nI (by omega) (by omega)
  obtain ⟨q, r, hq, hr, heq, hI2⟩ := pr I J K L C Mm (xs (nI i + (nI 1)).toNatClampNeg) (xs (nI i + (nI 2)).toNatClampNeg) (xs (nI i + (nI 3)).toNatClampNeg) hI
  refine lv_aload_n hx0 hb dL_law_207 rfl (lv_at hl 2 rfl) ?_
  refine lv_aload_n hx0 hb dL_law_208 rfl (lv_at hl 3 rfl) ?_
  refine lv_iload_n hx0 hb dL_law_209 rfl (lv_at hl 0 rfl) ?_
  refine lv_iconst (v := (nI 1)) hx0 hb dL_law_210 (by decide) ?_
  refine lv_iadd hx0 hb dL_law_211 ?_
  refine va_sld hx0 hb hX hbl hbA hS (hin 1 (by omega)) dL_law_212 ?_
  refine lv_aload_n hx0 hb dL_law_213 rfl (lv_at hl 3 rfl) ?_
  refine lv_iload_n hx0 hb dL_law_214 rfl (lv_at hl 0 rfl) ?_
  refine lv_iconst (v := (nI 2)) hx0 hb dL_law_215 (by decide) ?_
  refine lv_iadd hx0 hb dL_law_216 ?_
  refine va_sld hx0 hb hX hbl hbA hS (hin 2 (by omega)) dL_law_217 ?_
  refine lv_aload_n hx0 hb dL_law_218 rfl (lv_at hl 3 rfl) ?_
  refine lv_iload_n hx0 hb dL_law_219 rfl (lv_at hl 0 rfl) ?_
  refine lv_iconst (v := (nI 3)) hx0 hb dL_law_220 (by decide) ?_
  refine lv_iadd hx0 hb dL_law_221 ?_
  refine va_sld hx0 hb hX hbl hbA hS (hin 3 (by omega)) dL_law_222 ?_
  refine w_callV cx hP hD hS hA (c_X8_addEdge g l hx (α 0) (α 4) (α 8) (α 9) (α 11) (α 14) (α 21) (α 23) (α 26) (α 1) (α 2) (α 3) (α 29) (fun i => α (30 + 4 * i)) (fun i => α (31 + 4 * i)) (fun i => α (32 + 4 * i)) (fun i => α (33 + 4 * i)) (xs (nI i + (nI 1)).toNatClampNeg) (xs (nI i + (nI 2)).toNatClampNeg) (xs (nI i + (nI 3)).toNatClampNeg) (K 0) (K 1) (I 0) (I 1) (I 2) (K 4) L C hq) ([0, 1, 2, 3, 4, 9] ++ blk 49 33) (mid_C rfl grp_len rfl) (blk_nd (by decide) (by decide)) (blk_f rfl grp_f) (WW g hx α hm β (upf (upf (upf I 0 q.2.2.1) 1 q.2.2.2.1) 2 q.2.2.2.2.1) J (upf (upf K 1 q.2.1) 4 q.2.2.2.2.2.1) q.2.2.2.2.2.2.1 q.2.2.2.2.2.2.2 Mm) (mid_S rfl grp_len grp_len rfl (by decide) rfl) 0 8 rfl rfl yq_X8_addEdge rfl m_277 m_278 m_279 m_42 m_280 ⟨Nat.le_of_ble_eq_true rfl, Nat.le_of_ble_eq_true rfl⟩ rfl rfl hl.1 (Nat.le_of_ble_eq_true rfl) dL_law_223 ⟨Nat.le_of_ble_eq_true rfl, Nat.le_of_ble_eq_true rfl⟩ rfl (fun H locs hP hD hS => ?_)
  refine lv_aload_n hx0 hb dL_law_226 rfl (lv_at hl 1 rfl) ?_
  refine lv_aload_n hx0 hb dL_law_227 rfl (lv_at hl 3 rfl) ?_
  refine lv_iload_n hx0 hb dL_law_228 rfl (lv_at hl 0 rfl) ?_
  refine lv_iconst (v := (nI 1)) hx0 hb dL_law_229 (by decide) ?_
  refine lv_iadd hx0 hb dL_law_230 ?_
  refine va_sld hx0 hb hX hbl hbA hS (hin 1 (by omega)) dL_law_231 ?_
  refine lv_aload_n hx0 hb dL_law_232 rfl (lv_at hl 3 rfl) ?_
  refine lv_iload_n hx0 hb dL_law_233 rfl (lv_at hl 0 rfl) ?_
  refine lv_iconst (v := (nI 2)) hx0 hb dL_law_234 (by decide) ?_
  refine lv_iadd hx0 hb dL_law_235 ?_
  refine va_sld hx0 hb hX hbl hbA hS (hin 2 (by omega)) dL_law_236 ?_
  refine lv_aload_n hx0 hb dL_law_237 rfl (lv_at hl 3 rfl) ?_
  refine lv_iload_n hx0 hb dL_law_238 rfl (lv_at hl 0 rfl) ?_
  refine lv_iconst (v := (nI 3)) hx0 hb dL_law_239 (by decide) ?_
  refine lv_iadd hx0 hb dL_law_240 ?_
  refine va_sld hx0 hb hX hbl hbA hS (hin 3 (by omega)) dL_law_241 ?_
  refine w_callV cx hP hD hS hA (c_X9_addEdge g l hm (β 0) (β 1) (β 2) (β 3) (β 4) (β 5) (β 6) (β 7) (β 8) (β 9) (β 10) (β 11) (β 12) (β 13) (β 14) (β 15) (β 16) (β 17) (xs (nI i + (nI 1)).toNatClampNeg) (xs (nI i + (nI 2)).toNatClampNeg) (xs (nI i + (nI 3)).toNatClampNeg) (K 11) (K 12) (K 13) (K 14) (I 10) (I 12) hr) [30, 31, 33] (pre_C rfl) (by decide) rfl (WW g hx α hm β (upf (upf (upf (upf (upf I 0 q.2.2.1) 1 q.2.2.2.1) 2 q.2.2.2.2.1) 10 r.2.2.1) 12 r.2.2.2) J (upf (upf (upf K 1 q.2.1) 4 q.2.2.2.2.2.1) 11 r.2.1) q.2.2.2.2.2.2.1 q.2.2.2.2.2.2.2 Mm) (pre_S (k := 49) rfl (by decide) rfl) 30 9 rfl rfl yq_X9_addEdge rfl m_722 m_723 m_724 m_51 m_725 ⟨Nat.le_of_ble_eq_true rfl, Nat.le_of_ble_eq_true rfl⟩ rfl rfl hl.1 (Nat.le_of_ble_eq_true rfl) dL_law_242 ⟨Nat.le_of_ble_eq_true rfl, Nat.le_of_ble_eq_true rfl⟩ rfl (fun H locs hP hD hS => ?_)
  refine lv_icmp_eq (tgt := 918) hx0 hb dL_law_245 (by decide) (fun _ => ?_) (fun c_ => absurd heq c_)
  exact kk (upf (upf (upf (upf (upf I 0 q.2.2.1) 1 q.2.2.2.1) 2 q.2.2.2.2.1) 10 r.2.2.1) 12 r.2.2.2) J (upf (upf (upf K 1 q.2.1) 4 q.2.2.2.2.2.1) 11 r.2.1) q.2.2.2.2.2.2.1 q.2.2.2.2.2.2.2 Mm H locs hI2 hP hD hS
set_option maxHeartbeats 4000000 in
set_option maxRecDepth 100000 in
theorem law_removeEdge (pr : Pr_removeEdge) {g : GG} {p : Program} {l : Launch} {e : Env} {s : State} {m : MethodId} {below : List Frame} {meth : Method} {c : Code} {b Lx : Nat} {xs : Nat → Int32} {Q : State → Prop} (lc : LC g p s m c b Lx xs) {hx hm : Nat} {α β : Nat → Nat} {i : Nat} (hL : Lx ≤ 2048) (hi : i + 4 ≤ Lx) {I : Nat → Nat → Int32} {J : Nat → Nat → Int64} {K : Nat → Int32} {L : List Nat} {C : Nat → GC} {Mm : Nat → Nat → Int64} (hI : Inv I K L C) {H : Heap} {locs : List Loc} {ls : Array Slot} (hP : va_P (gD g) vwCl (WW g hx α hm β I J K L C Mm) H) (hD : va_D (fun q => s.heap.size ≤ q) (WW g hx α hm β I J K L C Mm)) (hS : va_S (fun q => s.heap.size ≤ q) s.heap H locs) (hl : lv_has ls 4 [(3, .int (nI i)), (2, .ref hm), (1, .ref hx), (0, .ref b)]) (kk : ∀ (I : Nat → Nat → Int32) (J : Nat → Nat → Int64) (K : Nat → Int32) (L : List Nat) (C : Nat → GC) (Mm : Nat → Nat → Int64) (H : Heap) (locs : List Loc), Inv I K L C → va_P (gD g) vwCl (WW g hx α hm β I J K L C Mm) H → va_D (fun q => s.heap.size ≤ q) (WW g hx α hm β I J K L C Mm) → va_S (fun q => s.heap.size ≤ q) s.heap H locs → W p l e room_1 s m #[Value.ref b] below meth c H locs 146 3014 Q (F0 m 918 ls [])) : W p l e room_1 s m #[Value.ref b] below meth c H locs 146 3014 Q (F0 m 250 ls []) := by
  obtain ⟨cx, hX, hbl⟩ := lc
  have hx0 := cx.1
  have hb := cx.2.1
  have hA : ∀ q : Nat, s.heap.size ≤ q → (fun q : Nat => s.heap.size ≤ q) q := fun _ h => h
  have hbA : ¬ (fun q : Nat => s.heap.size ≤ q) b := Nat.not_le.mpr hbl
  have hin : ∀ k : Nat, k < 4 → vp_in (nI i + nI k) Lx := fun k hk => by rw [nI_add]; exact vp_in_nI (by omega) (by omega)
  obtain ⟨q, r, hq, hr, heq, hI2⟩ := pr I J K L C Mm (xs (nI i + (nI 1)).toNatClampNeg) hI
  refine lv_aload_n hx0 hb dL_law_250 rfl (lv_at hl 2 rfl) ?_
  refine lv_aload_n hx0 hb dL_law_251 rfl (lv_at hl 3 rfl) ?_
  refine lv_iload_n hx0 hb dL_law_252 rfl (lv_at hl 0 rfl) ?_
  refine lv_iconst (v := (nI 1)) hx0 hb dL_law_253 (by decide) ?_
  refine lv_iadd hx0 hb dL_law_254 ?_
  refine va_sld hx0 hb hX hbl hbA hS (hin 1 (by omega)) dL_law_255 ?_
  refine w_callV cx hP hD hS hA (c_X8_removeEdge g l hx (α 0) (α 4) (α 8) (α 9) (α 11) (α 14) (α 21) (α 23) (α 26) (α 1) (α 2) (α 3) (α 29) (fun i => α (30 + 4 * i)) (fun i => α (31 + 4 * i)) (fun i => α (32 + 4 * i)) (fun i => α (33 + 4 * i)) (xs (nI i + (nI 1)).toNatClampNeg) (K 0) (K 1) (I 0) (I 1) (I 2) (K 4) L C hq) ([0, 1, 2, 3, 4, 9] ++ blk 49 33) (mid_C rfl grp_len rfl) (blk_nd (by decide) (by decide)) (blk_f rfl grp_f) (WW g hx α hm β (upf (upf (upf I 0 q.2.2.1) 1 q.2.2.2.1) 2 q.2.2.2.2.1) J (upf (upf K 1 q.2.1) 4 q.2.2.2.2.2.1) q.2.2.2.2.2.2.1 q.2.2.2.2.2.2.2 Mm) (mid_S rfl grp_len grp_len rfl (by decide) rfl) 0 8 rfl rfl yq_X8_removeEdge rfl m_294 m_295 m_296 m_42 m_297 ⟨Nat.le_of_ble_eq_true rfl, Nat.le_of_ble_eq_true rfl⟩ rfl rfl hl.1 (Nat.le_of_ble_eq_true rfl) dL_law_256 ⟨Nat.le_of_ble_eq_true rfl, Nat.le_of_ble_eq_true rfl⟩ rfl (fun H locs hP hD hS => ?_)
  refine lv_aload_n hx0 hb dL_law_259 rfl (lv_at hl 1 rfl) ?_
  refine lv_aload_n hx0 hb dL_law_260 rfl (lv_at hl 3 rfl) ?_
  refine lv_iload_n hx0 hb dL_law_261 rfl (lv_at hl 0 rfl) ?_
  refine lv_iconst (v := (nI 1)) hx0 hb dL_law_262 (by decide) ?_
  refine lv_iadd hx0 hb dL_law_263 ?_
  refine va_sld hx0 hb hX hbl hbA hS (hin 1 (by omega)) dL_law_264 ?_
  refine w_callV cx hP hD hS hA (c_X9_removeEdge g l hm (β 0) (β 1) (β 2) (β 3) (β 4) (β 5) (β 6) (β 7) (β 8) (β 9) (β 10) (β 11) (β 12) (β 13) (β 14) (β 15) (β 16) (β 17) (xs (nI i + (nI 1)).toNatClampNeg) (K 11) (K 12) (K 13) (K 14) (I 10) (I 12) hr) [30, 31, 33] (pre_C rfl) (by decide) rfl (WW g hx α hm β (upf (upf (upf (upf (upf I 0 q.2.2.1) 1 q.2.2.2.1) 2 q.2.2.2.2.1) 10 r.2.2.1) 12 r.2.2.2) J (upf (upf (upf K 1 q.2.1) 4 q.2.2.2.2.2.1) 11 r.2.1) q.2.2.2.2.2.2.1 q.2.2.2.2.2.2.2 Mm) (pre_S (k := 49) rfl (by decide) rfl) 30 9 rfl rfl yq_X9_removeEdge rfl m_730 m_731 m_732 m_51 m_733 ⟨Nat.le_of_ble_eq_true rfl, Nat.le_of_ble_eq_true rfl⟩ rfl rfl hl.1 (Nat.le_of_ble_eq_true rfl) dL_law_265 ⟨Nat.le_of_ble_eq_true rfl, Nat.le_of_ble_eq_true rfl⟩ rfl (fun H locs hP hD hS => ?_)
  refine lv_icmp_eq (tgt := 918) hx0 hb dL_law_268 (by decide) (fun _ => ?_) (fun c_ => absurd heq c_)
  exact kk (upf (upf (upf (upf (upf I 0 q.2.2.1) 1 q.2.2.2.1) 2 q.2.2.2.2.1) 10 r.2.2.1) 12 r.2.2.2) J (upf (upf (upf K 1 q.2.1) 4 q.2.2.2.2.2.1) 11 r.2.1) q.2.2.2.2.2.2.1 q.2.2.2.2.2.2.2 Mm H locs hI2 hP hD hS
set_option maxHeartbeats 4000000 in
set_option maxRecDepth 100000 in
theorem law_flipSign (pr : Pr_flipSign) {g : GG} {p : Program} {l : Launch} {e : Env} {s : State} {m : MethodId} {below : List Frame} {meth : Method} {c : Code} {b Lx : Nat} {xs : Nat → Int32} {Q : State → Prop} (lc : LC g p s m c b Lx xs) {hx hm : Nat} {α β : Nat → Nat} {i : Nat} (hL : Lx ≤ 2048) (hi : i + 4 ≤ Lx) {I : Nat → Nat → Int32} {J : Nat → Nat → Int64} {K : Nat → Int32} {L : List Nat} {C : Nat → GC} {Mm : Nat → Nat → Int64} (hI : Inv I K L C) {H : Heap} {locs : List Loc} {ls : Array Slot} (hP : va_P (gD g) vwCl (WW g hx α hm β I J K L C Mm) H) (hD : va_D (fun q => s.heap.size ≤ q) (WW g hx α hm β I J K L C Mm)) (hS : va_S (fun q => s.heap.size ≤ q) s.heap H locs) (hl : lv_has ls 4 [(3, .int (nI i)), (2, .ref hm), (1, .ref hx), (0, .ref b)]) (kk : ∀ (I : Nat → Nat → Int32) (J : Nat → Nat → Int64) (K : Nat → Int32) (L : List Nat) (C : Nat → GC) (Mm : Nat → Nat → Int64) (H : Heap) (locs : List Loc), Inv I K L C → va_P (gD g) vwCl (WW g hx α hm β I J K L C Mm) H → va_D (fun q => s.heap.size ≤ q) (WW g hx α hm β I J K L C Mm) → va_S (fun q => s.heap.size ≤ q) s.heap H locs → W p l e room_1 s m #[Value.ref b] below meth c H locs 146 3014 Q (F0 m 918 ls [])) : W p l e room_1 s m #[Value.ref b] below meth c H locs 146 3014 Q (F0 m 273 ls []) := by
  obtain ⟨cx, hX, hbl⟩ := lc
  have hx0 := cx.1
  have hb := cx.2.1
  have hA : ∀ q : Nat, s.heap.size ≤ q → (fun q : Nat => s.heap.size ≤ q) q := fun _ h => h
  have hbA : ¬ (fun q : Nat => s.heap.size ≤ q) b := Nat.not_le.mpr hbl
  have hin : ∀ k : Nat, k < 4 → vp_in (nI i + nI k) Lx := fun k hk => by rw [nI_add]; exact vp_in_nI (by omega) (by omega)
  obtain ⟨q, r, hq, hr, heq, hI2⟩ := pr I J K L C Mm (xs (nI i + (nI 1)).toNatClampNeg) hI
  refine lv_aload_n hx0 hb dL_law_273 rfl (lv_at hl 2 rfl) ?_
  refine lv_aload_n hx0 hb dL_law_274 rfl (lv_at hl 3 rfl) ?_
  refine lv_iload_n hx0 hb dL_law_275 rfl (lv_at hl 0 rfl) ?_
  refine lv_iconst (v := (nI 1)) hx0 hb dL_law_276 (by decide) ?_
  refine lv_iadd hx0 hb dL_law_277 ?_
  refine va_sld hx0 hb hX hbl hbA hS (hin 1 (by omega)) dL_law_278 ?_
  refine w_callV cx hP hD hS hA (c_X8_flipSign g l hx (α 0) (α 4) (α 8) (α 9) (α 11) (α 14) (α 21) (α 23) (α 26) (α 1) (α 2) (α 3) (α 29) (fun i => α (30 + 4 * i)) (fun i => α (31 + 4 * i)) (fun i => α (32 + 4 * i)) (fun i => α (33 + 4 * i)) (xs (nI i + (nI 1)).toNatClampNeg) (K 0) (K 1) (I 0) (I 1) (I 2) (K 4) L C hq) ([0, 1, 2, 3, 4, 9] ++ blk 49 33) (mid_C rfl grp_len rfl) (blk_nd (by decide) (by decide)) (blk_f rfl grp_f) (WW g hx α hm β (upf I 2 q.2.1) J (upf K 4 q.2.2.1) q.2.2.2.1 q.2.2.2.2 Mm) (mid_S rfl grp_len grp_len rfl (by decide) rfl) 0 8 rfl rfl yq_X8_flipSign rfl m_306 m_307 m_308 m_42 m_309 ⟨Nat.le_of_ble_eq_true rfl, Nat.le_of_ble_eq_true rfl⟩ rfl rfl hl.1 (Nat.le_of_ble_eq_true rfl) dL_law_279 ⟨Nat.le_of_ble_eq_true rfl, Nat.le_of_ble_eq_true rfl⟩ rfl (fun H locs hP hD hS => ?_)
  refine lv_aload_n hx0 hb dL_law_282 rfl (lv_at hl 1 rfl) ?_
  refine lv_aload_n hx0 hb dL_law_283 rfl (lv_at hl 3 rfl) ?_
  refine lv_iload_n hx0 hb dL_law_284 rfl (lv_at hl 0 rfl) ?_
  refine lv_iconst (v := (nI 1)) hx0 hb dL_law_285 (by decide) ?_
  refine lv_iadd hx0 hb dL_law_286 ?_
  refine va_sld hx0 hb hX hbl hbA hS (hin 1 (by omega)) dL_law_287 ?_
  refine w_callV cx hP hD hS hA (c_X9_flipSign g l hm (β 0) (β 1) (β 2) (β 3) (β 4) (β 5) (β 6) (β 7) (β 8) (β 9) (β 10) (β 11) (β 12) (β 13) (β 14) (β 15) (β 16) (β 17) (xs (nI i + (nI 1)).toNatClampNeg) (K 11) (K 12) (K 13) (K 14) (I 10) (I 12) hr) [30, 31, 33] (pre_C rfl) (by decide) rfl (WW g hx α hm β (upf (upf (upf I 2 q.2.1) 10 r.2.2.1) 12 r.2.2.2) J (upf (upf K 4 q.2.2.1) 11 r.2.1) q.2.2.2.1 q.2.2.2.2 Mm) (pre_S (k := 49) rfl (by decide) rfl) 30 9 rfl rfl yq_X9_flipSign rfl m_738 m_739 m_740 m_51 m_741 ⟨Nat.le_of_ble_eq_true rfl, Nat.le_of_ble_eq_true rfl⟩ rfl rfl hl.1 (Nat.le_of_ble_eq_true rfl) dL_law_288 ⟨Nat.le_of_ble_eq_true rfl, Nat.le_of_ble_eq_true rfl⟩ rfl (fun H locs hP hD hS => ?_)
  refine lv_icmp_eq (tgt := 918) hx0 hb dL_law_291 (by decide) (fun _ => ?_) (fun c_ => absurd heq c_)
  exact kk (upf (upf (upf I 2 q.2.1) 10 r.2.2.1) 12 r.2.2.2) J (upf (upf K 4 q.2.2.1) 11 r.2.1) q.2.2.2.1 q.2.2.2.2 Mm H locs hI2 hP hD hS
set_option maxHeartbeats 4000000 in
set_option maxRecDepth 100000 in
theorem law_appendCharacter (pr : Pr_appendCharacter) {g : GG} {p : Program} {l : Launch} {e : Env} {s : State} {m : MethodId} {below : List Frame} {meth : Method} {c : Code} {b Lx : Nat} {xs : Nat → Int32} {Q : State → Prop} (lc : LC g p s m c b Lx xs) {hx hm : Nat} {α β : Nat → Nat} {i : Nat} (hL : Lx ≤ 2048) (hi : i + 4 ≤ Lx) {I : Nat → Nat → Int32} {J : Nat → Nat → Int64} {K : Nat → Int32} {L : List Nat} {C : Nat → GC} {Mm : Nat → Nat → Int64} (hI : Inv I K L C) {H : Heap} {locs : List Loc} {ls : Array Slot} (hP : va_P (gD g) vwCl (WW g hx α hm β I J K L C Mm) H) (hD : va_D (fun q => s.heap.size ≤ q) (WW g hx α hm β I J K L C Mm)) (hS : va_S (fun q => s.heap.size ≤ q) s.heap H locs) (hl : lv_has ls 4 [(3, .int (nI i)), (2, .ref hm), (1, .ref hx), (0, .ref b)]) (kk : ∀ (I : Nat → Nat → Int32) (J : Nat → Nat → Int64) (K : Nat → Int32) (L : List Nat) (C : Nat → GC) (Mm : Nat → Nat → Int64) (H : Heap) (locs : List Loc), Inv I K L C → va_P (gD g) vwCl (WW g hx α hm β I J K L C Mm) H → va_D (fun q => s.heap.size ≤ q) (WW g hx α hm β I J K L C Mm) → va_S (fun q => s.heap.size ≤ q) s.heap H locs → W p l e room_1 s m #[Value.ref b] below meth c H locs 146 3014 Q (F0 m 918 ls [])) : W p l e room_1 s m #[Value.ref b] below meth c H locs 146 3014 Q (F0 m 296 ls []) := by
  obtain ⟨cx, hX, hbl⟩ := lc
  have hx0 := cx.1
  have hb := cx.2.1
  have hA : ∀ q : Nat, s.heap.size ≤ q → (fun q : Nat => s.heap.size ≤ q) q := fun _ h => h
  have hbA : ¬ (fun q : Nat => s.heap.size ≤ q) b := Nat.not_le.mpr hbl
  have hin : ∀ k : Nat, k < 4 → vp_in (nI i + nI k) Lx := fun k hk => by rw [nI_add]; exact vp_in_nI (by omega) (by omega)
  obtain ⟨q, r, hq, hr, heq, hI2⟩ := pr I J K L C Mm (xs (nI i + (nI 1)).toNatClampNeg) hI
  refine lv_aload_n hx0 hb dL_law_296 rfl (lv_at hl 2 rfl) ?_
  refine lv_aload_n hx0 hb dL_law_297 rfl (lv_at hl 3 rfl) ?_
  refine lv_iload_n hx0 hb dL_law_298 rfl (lv_at hl 0 rfl) ?_
  refine lv_iconst (v := (nI 1)) hx0 hb dL_law_299 (by decide) ?_
  refine lv_iadd hx0 hb dL_law_300 ?_
  refine va_sld hx0 hb hX hbl hbA hS (hin 1 (by omega)) dL_law_301 ?_
  refine w_callV cx hP hD hS hA (c_X8_appendCharacter g l hx (α 0) (α 4) (α 8) (α 9) (α 11) (α 14) (α 21) (α 23) (α 26) (α 10) (xs (nI i + (nI 1)).toNatClampNeg) (K 5) (K 6) (K 7) (K 8) (K 9) (I 6) hq) [0, 10, 11] (pre_C rfl) (by decide) rfl (WW g hx α hm β (upf I 6 q.2.2) J (upf K 5 q.2.1) L C Mm) (pre_S (k := 49) rfl (by decide) rfl) 0 8 rfl rfl yq_X8_appendCharacter rfl m_310 m_311 m_312 m_42 m_313 ⟨Nat.le_of_ble_eq_true rfl, Nat.le_of_ble_eq_true rfl⟩ rfl rfl hl.1 (Nat.le_of_ble_eq_true rfl) dL_law_302 ⟨Nat.le_of_ble_eq_true rfl, Nat.le_of_ble_eq_true rfl⟩ rfl (fun H locs hP hD hS => ?_)
  refine lv_aload_n hx0 hb dL_law_305 rfl (lv_at hl 1 rfl) ?_
  refine lv_aload_n hx0 hb dL_law_306 rfl (lv_at hl 3 rfl) ?_
  refine lv_iload_n hx0 hb dL_law_307 rfl (lv_at hl 0 rfl) ?_
  refine lv_iconst (v := (nI 1)) hx0 hb dL_law_308 (by decide) ?_
  refine lv_iadd hx0 hb dL_law_309 ?_
  refine va_sld hx0 hb hX hbl hbA hS (hin 1 (by omega)) dL_law_310 ?_
  refine w_callV cx hP hD hS hA (c_X9_appendCharacter g l hm (β 0) (β 1) (β 2) (β 3) (β 4) (β 5) (β 6) (β 7) (β 8) (β 9) (β 10) (β 11) (β 12) (β 13) (β 14) (β 15) (β 16) (β 17) (xs (nI i + (nI 1)).toNatClampNeg) (K 11) (K 12) (K 13) (K 14) (I 13) hr) [30, 34] (pre_C rfl) (by decide) rfl (WW g hx α hm β (upf (upf I 6 q.2.2) 13 r.2.2) J (upf (upf K 5 q.2.1) 12 r.2.1) L C Mm) (pre_S (k := 49) rfl (by decide) rfl) 30 9 rfl rfl yq_X9_appendCharacter rfl m_742 m_743 m_744 m_51 m_745 ⟨Nat.le_of_ble_eq_true rfl, Nat.le_of_ble_eq_true rfl⟩ rfl rfl hl.1 (Nat.le_of_ble_eq_true rfl) dL_law_311 ⟨Nat.le_of_ble_eq_true rfl, Nat.le_of_ble_eq_true rfl⟩ rfl (fun H locs hP hD hS => ?_)
  refine lv_icmp_eq (tgt := 918) hx0 hb dL_law_314 (by decide) (fun _ => ?_) (fun c_ => absurd heq c_)
  exact kk (upf (upf I 6 q.2.2) 13 r.2.2) J (upf (upf K 5 q.2.1) 12 r.2.1) L C Mm H locs hI2 hP hD hS
set_option maxHeartbeats 4000000 in
set_option maxRecDepth 100000 in
theorem law_clearText (pr : Pr_clearText) {g : GG} {p : Program} {l : Launch} {e : Env} {s : State} {m : MethodId} {below : List Frame} {meth : Method} {c : Code} {b Lx : Nat} {xs : Nat → Int32} {Q : State → Prop} (lc : LC g p s m c b Lx xs) {hx hm : Nat} {α β : Nat → Nat} {i : Nat} (hL : Lx ≤ 2048) (hi : i + 4 ≤ Lx) {I : Nat → Nat → Int32} {J : Nat → Nat → Int64} {K : Nat → Int32} {L : List Nat} {C : Nat → GC} {Mm : Nat → Nat → Int64} (hI : Inv I K L C) {H : Heap} {locs : List Loc} {ls : Array Slot} (hP : va_P (gD g) vwCl (WW g hx α hm β I J K L C Mm) H) (hD : va_D (fun q => s.heap.size ≤ q) (WW g hx α hm β I J K L C Mm)) (hS : va_S (fun q => s.heap.size ≤ q) s.heap H locs) (hl : lv_has ls 4 [(3, .int (nI i)), (2, .ref hm), (1, .ref hx), (0, .ref b)]) (kk : ∀ (I : Nat → Nat → Int32) (J : Nat → Nat → Int64) (K : Nat → Int32) (L : List Nat) (C : Nat → GC) (Mm : Nat → Nat → Int64) (H : Heap) (locs : List Loc), Inv I K L C → va_P (gD g) vwCl (WW g hx α hm β I J K L C Mm) H → va_D (fun q => s.heap.size ≤ q) (WW g hx α hm β I J K L C Mm) → va_S (fun q => s.heap.size ≤ q) s.heap H locs → W p l e room_1 s m #[Value.ref b] below meth c H locs 146 3014 Q (F0 m 918 ls [])) : W p l e room_1 s m #[Value.ref b] below meth c H locs 146 3014 Q (F0 m 319 ls []) := by
  obtain ⟨cx, hX, hbl⟩ := lc
  have hx0 := cx.1
  have hb := cx.2.1
  have hA : ∀ q : Nat, s.heap.size ≤ q → (fun q : Nat => s.heap.size ≤ q) q := fun _ h => h
  have hbA : ¬ (fun q : Nat => s.heap.size ≤ q) b := Nat.not_le.mpr hbl
  have hin : ∀ k : Nat, k < 4 → vp_in (nI i + nI k) Lx := fun k hk => by rw [nI_add]; exact vp_in_nI (by omega) (by omega)
  obtain ⟨q, r, hq, hr, heq, hI2⟩ := pr I J K L C Mm  hI
  refine lv_aload_n hx0 hb dL_law_319 rfl (lv_at hl 2 rfl) ?_
  refine w_callV cx hP hD hS hA (c_X8_clearText g l hx (α 0) (α 4) (α 8) (α 9) (α 11) (α 14) (α 21) (α 23) (α 26) (α 10) (K 5) (K 6) (K 7) (K 8) (K 9) hq) [0, 10] (pre_C rfl) (by decide) rfl (WW g hx α hm β I J (upf K 5 q.2) L C Mm) (pre_S (k := 49) rfl (by decide) rfl) 0 8 rfl rfl yq_X8_clearText rfl m_318 m_319 m_320 m_42 m_321 ⟨Nat.le_of_ble_eq_true rfl, Nat.le_of_ble_eq_true rfl⟩ rfl rfl hl.1 (Nat.le_of_ble_eq_true rfl) dL_law_320 ⟨Nat.le_of_ble_eq_true rfl, Nat.le_of_ble_eq_true rfl⟩ rfl (fun H locs hP hD hS => ?_)
  refine lv_aload_n hx0 hb dL_law_323 rfl (lv_at hl 1 rfl) ?_
  refine w_callV cx hP hD hS hA (c_X9_clearText g l hm (β 0) (β 1) (β 2) (β 3) (β 4) (β 5) (β 6) (β 7) (β 8) (β 9) (β 10) (β 11) (β 12) (β 13) (β 14) (β 15) (β 16) (β 17) (K 11) (K 12) (K 13) (K 14) hr) [30] (pre_C rfl) (by decide) rfl (WW g hx α hm β I J (upf (upf K 5 q.2) 12 r.2) L C Mm) (pre_S (k := 49) rfl (by decide) rfl) 30 9 rfl rfl yq_X9_clearText rfl m_746 m_747 m_748 m_51 m_749 ⟨Nat.le_of_ble_eq_true rfl, Nat.le_of_ble_eq_true rfl⟩ rfl rfl hl.1 (Nat.le_of_ble_eq_true rfl) dL_law_324 ⟨Nat.le_of_ble_eq_true rfl, Nat.le_of_ble_eq_true rfl⟩ rfl (fun H locs hP hD hS => ?_)
  refine lv_icmp_eq (tgt := 918) hx0 hb dL_law_327 (by decide) (fun _ => ?_) (fun c_ => absurd heq c_)
  exact kk I J (upf (upf K 5 q.2) 12 r.2) L C Mm H locs hI2 hP hD hS
set_option maxHeartbeats 4000000 in
set_option maxRecDepth 100000 in
theorem law_loadGraph (pr : Pr_loadGraph) {g : GG} {p : Program} {l : Launch} {e : Env} {s : State} {m : MethodId} {below : List Frame} {meth : Method} {c : Code} {b Lx : Nat} {xs : Nat → Int32} {Q : State → Prop} (lc : LC g p s m c b Lx xs) {hx hm : Nat} {α β : Nat → Nat} {i : Nat} (hL : Lx ≤ 2048) (hi : i + 4 ≤ Lx) {I : Nat → Nat → Int32} {J : Nat → Nat → Int64} {K : Nat → Int32} {L : List Nat} {C : Nat → GC} {Mm : Nat → Nat → Int64} (hI : Inv I K L C) {H : Heap} {locs : List Loc} {ls : Array Slot} (hP : va_P (gD g) vwCl (WW g hx α hm β I J K L C Mm) H) (hD : va_D (fun q => s.heap.size ≤ q) (WW g hx α hm β I J K L C Mm)) (hS : va_S (fun q => s.heap.size ≤ q) s.heap H locs) (hl : lv_has ls 4 [(3, .int (nI i)), (2, .ref hm), (1, .ref hx), (0, .ref b)]) (kk : ∀ (I : Nat → Nat → Int32) (J : Nat → Nat → Int64) (K : Nat → Int32) (L : List Nat) (C : Nat → GC) (Mm : Nat → Nat → Int64) (H : Heap) (locs : List Loc), Inv I K L C → va_P (gD g) vwCl (WW g hx α hm β I J K L C Mm) H → va_D (fun q => s.heap.size ≤ q) (WW g hx α hm β I J K L C Mm) → va_S (fun q => s.heap.size ≤ q) s.heap H locs → W p l e room_1 s m #[Value.ref b] below meth c H locs 146 3014 Q (F0 m 918 ls [])) : W p l e room_1 s m #[Value.ref b] below meth c H locs 146 3014 Q (F0 m 332 ls []) := by
  obtain ⟨cx, hX, hbl⟩ := lc
  have hx0 := cx.1
  have hb := cx.2.1
  have hA : ∀ q : Nat, s.heap.size ≤ q → (fun q : Nat => s.heap.size ≤ q) q := fun _ h => h
  have hbA : ¬ (fun q : Nat => s.heap.size ≤ q) b := Nat.not_le.mpr hbl
  have hin : ∀ k : Nat, k < 4 → vp_in (nI i + nI k) Lx := fun k hk => by rw [nI_add]; exact vp_in_nI (by omega) (by omega)
  obtain ⟨q, r, hq, hr, heq, hI2⟩ := pr I J K L C Mm  hI
  refine lv_aload_n hx0 hb dL_law_332 rfl (lv_at hl 2 rfl) ?_
  refine w_callV cx hP hD hS hA (c_X8_loadGraph g l hx (α 0) (α 4) (α 8) (α 9) (α 11) (α 14) (α 21) (α 23) (α 26) (α 1) (α 2) (α 3) (α 5) (α 6) (α 7) (α 29) (α 10) (fun i => α (30 + 4 * i)) (fun i => α (31 + 4 * i)) (fun i => α (32 + 4 * i)) (fun i => α (33 + 4 * i)) (K 0) (K 1) (I 0) (I 1) (I 2) (K 2) (K 3) (I 3) (I 4) (I 5) (K 4) (K 5) (K 6) (K 7) (K 8) (K 9) (I 6) L C hq) ([0, 1, 2, 3, 4, 5, 6, 7, 8, 9, 10, 11] ++ blk 49 33) (mid_C rfl grp_len rfl) (blk_nd (by decide) (by decide)) (blk_f rfl grp_f) (WW g hx α hm β (upf (upf (upf (upf (upf (upf I 0 q.2.2.2.1) 1 q.2.2.2.2.1) 2 q.2.2.2.2.2.1) 3 q.2.2.2.2.2.2.2.2.1) 4 q.2.2.2.2.2.2.2.2.2.1) 5 q.2.2.2.2.2.2.2.2.2.2.1) J (upf (upf (upf (upf (upf (upf (upf (upf (upf (upf K 0 q.2.1) 1 q.2.2.1) 2 q.2.2.2.2.2.2.1) 3 q.2.2.2.2.2.2.2.1) 4 q.2.2.2.2.2.2.2.2.2.2.2.1) 5 q.2.2.2.2.2.2.2.2.2.2.2.2.1) 6 q.2.2.2.2.2.2.2.2.2.2.2.2.2.1) 7 q.2.2.2.2.2.2.2.2.2.2.2.2.2.2.1) 8 q.2.2.2.2.2.2.2.2.2.2.2.2.2.2.2.1) 9 q.2.2.2.2.2.2.2.2.2.2.2.2.2.2.2.2.1) q.2.2.2.2.2.2.2.2.2.2.2.2.2.2.2.2.2.1 q.2.2.2.2.2.2.2.2.2.2.2.2.2.2.2.2.2.2 Mm) (mid_S rfl grp_len grp_len rfl (by decide) rfl) 0 8 rfl rfl yq_X8_loadGraph rfl m_322 m_323 m_324 m_42 m_325 ⟨Nat.le_of_ble_eq_true rfl, Nat.le_of_ble_eq_true rfl⟩ rfl rfl hl.1 (Nat.le_of_ble_eq_true rfl) dL_law_333 ⟨Nat.le_of_ble_eq_true rfl, Nat.le_of_ble_eq_true rfl⟩ rfl (fun H locs hP hD hS => ?_)
  refine lv_aload_n hx0 hb dL_law_336 rfl (lv_at hl 1 rfl) ?_
  refine w_callV cx hP hD hS hA (c_X9_loadGraph g l hm (β 0) (β 1) (β 2) (β 3) (β 4) (β 5) (β 6) (β 7) (β 8) (β 9) (β 10) (β 11) (β 12) (β 13) (β 14) (β 15) (β 16) (β 17) (K 11) (K 12) (K 13) (K 14) (I 10) (I 11) (I 12) (I 13) hr) [30, 31, 32, 33, 34] (pre_C rfl) (by decide) rfl (WW g hx α hm β (upf (upf (upf (upf (upf (upf (upf (upf (upf I 0 q.2.2.2.1) 1 q.2.2.2.2.1) 2 q.2.2.2.2.2.1) 3 q.2.2.2.2.2.2.2.2.1) 4 q.2.2.2.2.2.2.2.2.2.1) 5 q.2.2.2.2.2.2.2.2.2.2.1) 10 r.2.2.2.2.1) 11 r.2.2.2.2.2.1) 12 r.2.2.2.2.2.2) J (upf (upf (upf (upf (upf (upf (upf (upf (upf (upf (upf (upf (upf K 0 q.2.1) 1 q.2.2.1) 2 q.2.2.2.2.2.2.1) 3 q.2.2.2.2.2.2.2.1) 4 q.2.2.2.2.2.2.2.2.2.2.2.1) 5 q.2.2.2.2.2.2.2.2.2.2.2.2.1) 6 q.2.2.2.2.2.2.2.2.2.2.2.2.2.1) 7 q.2.2.2.2.2.2.2.2.2.2.2.2.2.2.1) 8 q.2.2.2.2.2.2.2.2.2.2.2.2.2.2.2.1) 9 q.2.2.2.2.2.2.2.2.2.2.2.2.2.2.2.2.1) 11 r.2.1) 12 r.2.2.1) 13 r.2.2.2.1) q.2.2.2.2.2.2.2.2.2.2.2.2.2.2.2.2.2.1 q.2.2.2.2.2.2.2.2.2.2.2.2.2.2.2.2.2.2 Mm) (pre_S (k := 49) rfl (by decide) rfl) 30 9 rfl rfl yq_X9_loadGraph rfl m_750 m_751 m_752 m_51 m_753 ⟨Nat.le_of_ble_eq_true rfl, Nat.le_of_ble_eq_true rfl⟩ rfl rfl hl.1 (Nat.le_of_ble_eq_true rfl) dL_law_337 ⟨Nat.le_of_ble_eq_true rfl, Nat.le_of_ble_eq_true rfl⟩ rfl (fun H locs hP hD hS => ?_)
  refine lv_icmp_eq (tgt := 918) hx0 hb dL_law_340 (by decide) (fun _ => ?_) (fun c_ => absurd heq c_)
  exact kk (upf (upf (upf (upf (upf (upf (upf (upf (upf I 0 q.2.2.2.1) 1 q.2.2.2.2.1) 2 q.2.2.2.2.2.1) 3 q.2.2.2.2.2.2.2.2.1) 4 q.2.2.2.2.2.2.2.2.2.1) 5 q.2.2.2.2.2.2.2.2.2.2.1) 10 r.2.2.2.2.1) 11 r.2.2.2.2.2.1) 12 r.2.2.2.2.2.2) J (upf (upf (upf (upf (upf (upf (upf (upf (upf (upf (upf (upf (upf K 0 q.2.1) 1 q.2.2.1) 2 q.2.2.2.2.2.2.1) 3 q.2.2.2.2.2.2.2.1) 4 q.2.2.2.2.2.2.2.2.2.2.2.1) 5 q.2.2.2.2.2.2.2.2.2.2.2.2.1) 6 q.2.2.2.2.2.2.2.2.2.2.2.2.2.1) 7 q.2.2.2.2.2.2.2.2.2.2.2.2.2.2.1) 8 q.2.2.2.2.2.2.2.2.2.2.2.2.2.2.2.1) 9 q.2.2.2.2.2.2.2.2.2.2.2.2.2.2.2.2.1) 11 r.2.1) 12 r.2.2.1) 13 r.2.2.2.1) q.2.2.2.2.2.2.2.2.2.2.2.2.2.2.2.2.2.1 q.2.2.2.2.2.2.2.2.2.2.2.2.2.2.2.2.2.2 Mm H locs hI2 hP hD hS
set_option maxHeartbeats 4000000 in
set_option maxRecDepth 100000 in
theorem law_undo (pr : Pr_undo) {g : GG} {p : Program} {l : Launch} {e : Env} {s : State} {m : MethodId} {below : List Frame} {meth : Method} {c : Code} {b Lx : Nat} {xs : Nat → Int32} {Q : State → Prop} (lc : LC g p s m c b Lx xs) {hx hm : Nat} {α β : Nat → Nat} {i : Nat} (hL : Lx ≤ 2048) (hi : i + 4 ≤ Lx) {I : Nat → Nat → Int32} {J : Nat → Nat → Int64} {K : Nat → Int32} {L : List Nat} {C : Nat → GC} {Mm : Nat → Nat → Int64} (hI : Inv I K L C) {H : Heap} {locs : List Loc} {ls : Array Slot} (hP : va_P (gD g) vwCl (WW g hx α hm β I J K L C Mm) H) (hD : va_D (fun q => s.heap.size ≤ q) (WW g hx α hm β I J K L C Mm)) (hS : va_S (fun q => s.heap.size ≤ q) s.heap H locs) (hl : lv_has ls 4 [(3, .int (nI i)), (2, .ref hm), (1, .ref hx), (0, .ref b)]) (kk : ∀ (I : Nat → Nat → Int32) (J : Nat → Nat → Int64) (K : Nat → Int32) (L : List Nat) (C : Nat → GC) (Mm : Nat → Nat → Int64) (H : Heap) (locs : List Loc), Inv I K L C → va_P (gD g) vwCl (WW g hx α hm β I J K L C Mm) H → va_D (fun q => s.heap.size ≤ q) (WW g hx α hm β I J K L C Mm) → va_S (fun q => s.heap.size ≤ q) s.heap H locs → W p l e room_1 s m #[Value.ref b] below meth c H locs 146 3014 Q (F0 m 918 ls [])) : W p l e room_1 s m #[Value.ref b] below meth c H locs 146 3014 Q (F0 m 345 ls []) := by
  obtain ⟨cx, hX, hbl⟩ := lc
  have hx0 := cx.1
  have hb := cx.2.1
  have hA : ∀ q : Nat, s.heap.size ≤ q → (fun q : Nat => s.heap.size ≤ q) q := fun _ h => h
  have hbA : ¬ (fun q : Nat => s.heap.size ≤ q) b := Nat.not_le.mpr hbl
  have hin : ∀ k : Nat, k < 4 → vp_in (nI i + nI k) Lx := fun k hk => by rw [nI_add]; exact vp_in_nI (by omega) (by omega)
  obtain ⟨q, r, hq, hr, heq, hI2⟩ := pr I J K L C Mm  hI
  refine lv_aload_n hx0 hb dL_law_345 rfl (lv_at hl 2 rfl) ?_
  refine w_callV cx hP hD hS hA (c_X8_undo g l hx (α 0) (α 4) (α 8) (α 9) (α 11) (α 14) (α 21) (α 23) (α 26) (α 1) (α 2) (α 3) (α 29) (fun i => α (30 + 4 * i)) (fun i => α (31 + 4 * i)) (fun i => α (32 + 4 * i)) (fun i => α (33 + 4 * i)) (K 0) (K 1) (I 0) (I 1) (I 2) (K 4) L C hq) ([0, 1, 2, 3, 4, 9] ++ blk 49 33) (mid_C rfl grp_len rfl) (blk_nd (by decide) (by decide)) (blk_f rfl grp_f) (WW g hx α hm β (upf (upf (upf I 0 q.2.2.2.1) 1 q.2.2.2.2.1) 2 q.2.2.2.2.2.1) J (upf (upf (upf K 0 q.2.1) 1 q.2.2.1) 4 q.2.2.2.2.2.2) L C Mm) (mid_S rfl grp_len grp_len rfl (by decide) rfl) 0 8 rfl rfl yq_X8_undo rfl m_354 m_355 m_356 m_42 m_357 ⟨Nat.le_of_ble_eq_true rfl, Nat.le_of_ble_eq_true rfl⟩ rfl rfl hl.1 (Nat.le_of_ble_eq_true rfl) dL_law_346 ⟨Nat.le_of_ble_eq_true rfl, Nat.le_of_ble_eq_true rfl⟩ rfl (fun H locs hP hD hS => ?_)
  refine lv_aload_n hx0 hb dL_law_349 rfl (lv_at hl 1 rfl) ?_
  refine w_callV cx hP hD hS hA (c_X9_undo g l hm (β 0) (β 1) (β 2) (β 3) (β 4) (β 5) (β 6) (β 7) (β 8) (β 9) (β 10) (β 11) (β 12) (β 13) (β 14) (β 15) (β 16) (β 17) (K 11) (K 12) (K 13) (K 14) (I 10) (I 12) hr) [30, 31, 33] (pre_C rfl) (by decide) rfl (WW g hx α hm β (upf (upf (upf (upf I 0 q.2.2.2.1) 1 q.2.2.2.2.1) 2 q.2.2.2.2.2.1) 10 r.2.2) J (upf (upf (upf (upf K 0 q.2.1) 1 q.2.2.1) 4 q.2.2.2.2.2.2) 11 r.2.1) L C Mm) (pre_S (k := 49) rfl (by decide) rfl) 30 9 rfl rfl yq_X9_undo rfl m_762 m_763 m_764 m_51 m_765 ⟨Nat.le_of_ble_eq_true rfl, Nat.le_of_ble_eq_true rfl⟩ rfl rfl hl.1 (Nat.le_of_ble_eq_true rfl) dL_law_350 ⟨Nat.le_of_ble_eq_true rfl, Nat.le_of_ble_eq_true rfl⟩ rfl (fun H locs hP hD hS => ?_)
  refine lv_icmp_eq (tgt := 918) hx0 hb dL_law_353 (by decide) (fun _ => ?_) (fun c_ => absurd heq c_)
  exact kk (upf (upf (upf (upf I 0 q.2.2.2.1) 1 q.2.2.2.2.1) 2 q.2.2.2.2.2.1) 10 r.2.2) J (upf (upf (upf (upf K 0 q.2.1) 1 q.2.2.1) 4 q.2.2.2.2.2.2) 11 r.2.1) L C Mm H locs hI2 hP hD hS
set_option maxHeartbeats 4000000 in
set_option maxRecDepth 100000 in
theorem law_vertexCount (pr : Pr_vertexCount) {g : GG} {p : Program} {l : Launch} {e : Env} {s : State} {m : MethodId} {below : List Frame} {meth : Method} {c : Code} {b Lx : Nat} {xs : Nat → Int32} {Q : State → Prop} (lc : LC g p s m c b Lx xs) {hx hm : Nat} {α β : Nat → Nat} {i : Nat} (hL : Lx ≤ 2048) (hi : i + 4 ≤ Lx) {I : Nat → Nat → Int32} {J : Nat → Nat → Int64} {K : Nat → Int32} {L : List Nat} {C : Nat → GC} {Mm : Nat → Nat → Int64} (hI : Inv I K L C) {H : Heap} {locs : List Loc} {ls : Array Slot} (hP : va_P (gD g) vwCl (WW g hx α hm β I J K L C Mm) H) (hD : va_D (fun q => s.heap.size ≤ q) (WW g hx α hm β I J K L C Mm)) (hS : va_S (fun q => s.heap.size ≤ q) s.heap H locs) (hl : lv_has ls 4 [(3, .int (nI i)), (2, .ref hm), (1, .ref hx), (0, .ref b)]) (kk : ∀ (I : Nat → Nat → Int32) (J : Nat → Nat → Int64) (K : Nat → Int32) (L : List Nat) (C : Nat → GC) (Mm : Nat → Nat → Int64) (H : Heap) (locs : List Loc), Inv I K L C → va_P (gD g) vwCl (WW g hx α hm β I J K L C Mm) H → va_D (fun q => s.heap.size ≤ q) (WW g hx α hm β I J K L C Mm) → va_S (fun q => s.heap.size ≤ q) s.heap H locs → W p l e room_1 s m #[Value.ref b] below meth c H locs 146 3014 Q (F0 m 918 ls [])) : W p l e room_1 s m #[Value.ref b] below meth c H locs 146 3014 Q (F0 m 358 ls []) := by
  obtain ⟨cx, hX, hbl⟩ := lc
  have hx0 := cx.1
  have hb := cx.2.1
  have hA : ∀ q : Nat, s.heap.size ≤ q → (fun q : Nat => s.heap.size ≤ q) q := fun _ h => h
  have hbA : ¬ (fun q : Nat => s.heap.size ≤ q) b := Nat.not_le.mpr hbl
  have hin : ∀ k : Nat, k < 4 → vp_in (nI i + nI k) Lx := fun k hk => by rw [nI_add]; exact vp_in_nI (by omega) (by omega)
  obtain ⟨q, r, hq, hr, heq, hI2⟩ := pr I J K L C Mm  hI
  refine lv_aload_n hx0 hb dL_law_358 rfl (lv_at hl 2 rfl) ?_
  refine w_callV cx hP hD hS hA (c_X8_vertexCount g l hx (α 0) (α 4) (α 8) (α 9) (α 11) (α 14) (α 21) (α 23) (α 26) (α 1) (α 2) (α 3) (K 0) (K 1) hq) [0, 1] (pre_C rfl) (by decide) rfl (WW g hx α hm β I J K L C Mm) (pre_S (k := 49) rfl (by decide) rfl) 0 8 rfl rfl yq_X8_vertexCount rfl m_362 m_363 m_364 m_42 m_365 ⟨Nat.le_of_ble_eq_true rfl, Nat.le_of_ble_eq_true rfl⟩ rfl rfl hl.1 (Nat.le_of_ble_eq_true rfl) dL_law_359 ⟨Nat.le_of_ble_eq_true rfl, Nat.le_of_ble_eq_true rfl⟩ rfl (fun H locs hP hD hS => ?_)
  refine lv_aload_n hx0 hb dL_law_362 rfl (lv_at hl 1 rfl) ?_
  refine w_callV cx hP hD hS hA (c_X9_vertexCount g l hm (β 0) (β 1) (β 2) (β 3) (β 4) (β 5) (β 6) (β 7) (β 8) (β 9) (β 10) (β 11) (β 12) (β 13) (β 14) (β 15) (β 16) (β 17) (K 11) (K 12) (K 13) (K 14) (I 10) hr) [30, 31] (pre_C rfl) (by decide) rfl (WW g hx α hm β I J K L C Mm) (pre_S (k := 49) rfl (by decide) rfl) 30 9 rfl rfl yq_X9_vertexCount rfl m_766 m_767 m_768 m_51 m_769 ⟨Nat.le_of_ble_eq_true rfl, Nat.le_of_ble_eq_true rfl⟩ rfl rfl hl.1 (Nat.le_of_ble_eq_true rfl) dL_law_363 ⟨Nat.le_of_ble_eq_true rfl, Nat.le_of_ble_eq_true rfl⟩ rfl (fun H locs hP hD hS => ?_)
  refine lv_icmp_eq (tgt := 918) hx0 hb dL_law_366 (by decide) (fun _ => ?_) (fun c_ => absurd heq c_)
  exact kk I J K L C Mm H locs hI2 hP hD hS
set_option maxHeartbeats 4000000 in
set_option maxRecDepth 100000 in
theorem law_edgeCount (pr : Pr_edgeCount) {g : GG} {p : Program} {l : Launch} {e : Env} {s : State} {m : MethodId} {below : List Frame} {meth : Method} {c : Code} {b Lx : Nat} {xs : Nat → Int32} {Q : State → Prop} (lc : LC g p s m c b Lx xs) {hx hm : Nat} {α β : Nat → Nat} {i : Nat} (hL : Lx ≤ 2048) (hi : i + 4 ≤ Lx) {I : Nat → Nat → Int32} {J : Nat → Nat → Int64} {K : Nat → Int32} {L : List Nat} {C : Nat → GC} {Mm : Nat → Nat → Int64} (hI : Inv I K L C) {H : Heap} {locs : List Loc} {ls : Array Slot} (hP : va_P (gD g) vwCl (WW g hx α hm β I J K L C Mm) H) (hD : va_D (fun q => s.heap.size ≤ q) (WW g hx α hm β I J K L C Mm)) (hS : va_S (fun q => s.heap.size ≤ q) s.heap H locs) (hl : lv_has ls 4 [(3, .int (nI i)), (2, .ref hm), (1, .ref hx), (0, .ref b)]) (kk : ∀ (I : Nat → Nat → Int32) (J : Nat → Nat → Int64) (K : Nat → Int32) (L : List Nat) (C : Nat → GC) (Mm : Nat → Nat → Int64) (H : Heap) (locs : List Loc), Inv I K L C → va_P (gD g) vwCl (WW g hx α hm β I J K L C Mm) H → va_D (fun q => s.heap.size ≤ q) (WW g hx α hm β I J K L C Mm) → va_S (fun q => s.heap.size ≤ q) s.heap H locs → W p l e room_1 s m #[Value.ref b] below meth c H locs 146 3014 Q (F0 m 918 ls [])) : W p l e room_1 s m #[Value.ref b] below meth c H locs 146 3014 Q (F0 m 371 ls []) := by
  obtain ⟨cx, hX, hbl⟩ := lc
  have hx0 := cx.1
  have hb := cx.2.1
  have hA : ∀ q : Nat, s.heap.size ≤ q → (fun q : Nat => s.heap.size ≤ q) q := fun _ h => h
  have hbA : ¬ (fun q : Nat => s.heap.size ≤ q) b := Nat.not_le.mpr hbl
  have hin : ∀ k : Nat, k < 4 → vp_in (nI i + nI k) Lx := fun k hk => by rw [nI_add]; exact vp_in_nI (by omega) (by omega)
  obtain ⟨q, r, hq, hr, heq, hI2⟩ := pr I J K L C Mm  hI
  refine lv_aload_n hx0 hb dL_law_371 rfl (lv_at hl 2 rfl) ?_
  refine w_callV cx hP hD hS hA (c_X8_edgeCount g l hx (α 0) (α 4) (α 8) (α 9) (α 11) (α 14) (α 21) (α 23) (α 26) (α 1) (α 2) (α 3) (K 0) (K 1) hq) [0, 1] (pre_C rfl) (by decide) rfl (WW g hx α hm β I J K L C Mm) (pre_S (k := 49) rfl (by decide) rfl) 0 8 rfl rfl yq_X8_edgeCount rfl m_366 m_367 m_368 m_42 m_369 ⟨Nat.le_of_ble_eq_true rfl, Nat.le_of_ble_eq_true rfl⟩ rfl rfl hl.1 (Nat.le_of_ble_eq_true rfl) dL_law_372 ⟨Nat.le_of_ble_eq_true rfl, Nat.le_of_ble_eq_true rfl⟩ rfl (fun H locs hP hD hS => ?_)
  refine lv_aload_n hx0 hb dL_law_375 rfl (lv_at hl 1 rfl) ?_
  refine w_callV cx hP hD hS hA (c_X9_edgeCount g l hm (β 0) (β 1) (β 2) (β 3) (β 4) (β 5) (β 6) (β 7) (β 8) (β 9) (β 10) (β 11) (β 12) (β 13) (β 14) (β 15) (β 16) (β 17) (K 11) (K 12) (K 13) (K 14) (I 10) hr) [30, 31] (pre_C rfl) (by decide) rfl (WW g hx α hm β I J K L C Mm) (pre_S (k := 49) rfl (by decide) rfl) 30 9 rfl rfl yq_X9_edgeCount rfl m_770 m_771 m_772 m_51 m_773 ⟨Nat.le_of_ble_eq_true rfl, Nat.le_of_ble_eq_true rfl⟩ rfl rfl hl.1 (Nat.le_of_ble_eq_true rfl) dL_law_376 ⟨Nat.le_of_ble_eq_true rfl, Nat.le_of_ble_eq_true rfl⟩ rfl (fun H locs hP hD hS => ?_)
  refine lv_icmp_eq (tgt := 918) hx0 hb dL_law_379 (by decide) (fun _ => ?_) (fun c_ => absurd heq c_)
  exact kk I J K L C Mm H locs hI2 hP hD hS
set_option maxHeartbeats 4000000 in
set_option maxRecDepth 100000 in
theorem law_headOf (pr : Pr_headOf) {g : GG} {p : Program} {l : Launch} {e : Env} {s : State} {m : MethodId} {below : List Frame} {meth : Method} {c : Code} {b Lx : Nat} {xs : Nat → Int32} {Q : State → Prop} (lc : LC g p s m c b Lx xs) {hx hm : Nat} {α β : Nat → Nat} {i : Nat} (hL : Lx ≤ 2048) (hi : i + 4 ≤ Lx) {I : Nat → Nat → Int32} {J : Nat → Nat → Int64} {K : Nat → Int32} {L : List Nat} {C : Nat → GC} {Mm : Nat → Nat → Int64} (hI : Inv I K L C) {H : Heap} {locs : List Loc} {ls : Array Slot} (hP : va_P (gD g) vwCl (WW g hx α hm β I J K L C Mm) H) (hD : va_D (fun q => s.heap.size ≤ q) (WW g hx α hm β I J K L C Mm)) (hS : va_S (fun q => s.heap.size ≤ q) s.heap H locs) (hl : lv_has ls 4 [(3, .int (nI i)), (2, .ref hm), (1, .ref hx), (0, .ref b)]) (kk : ∀ (I : Nat → Nat → Int32) (J : Nat → Nat → Int64) (K : Nat → Int32) (L : List Nat) (C : Nat → GC) (Mm : Nat → Nat → Int64) (H : Heap) (locs : List Loc), Inv I K L C → va_P (gD g) vwCl (WW g hx α hm β I J K L C Mm) H → va_D (fun q => s.heap.size ≤ q) (WW g hx α hm β I J K L C Mm) → va_S (fun q => s.heap.size ≤ q) s.heap H locs → W p l e room_1 s m #[Value.ref b] below meth c H locs 146 3014 Q (F0 m 918 ls [])) : W p l e room_1 s m #[Value.ref b] below meth c H locs 146 3014 Q (F0 m 384 ls []) := by
  obtain ⟨cx, hX, hbl⟩ := lc
  have hx0 := cx.1
  have hb := cx.2.1
  have hA : ∀ q : Nat, s.heap.size ≤ q → (fun q : Nat => s.heap.size ≤ q) q := fun _ h => h
  have hbA : ¬ (fun q : Nat => s.heap.size ≤ q) b := Nat.not_le.mpr hbl
  have hin : ∀ k : Nat, k < 4 → vp_in (nI i + nI k) Lx := fun k hk => by rw [nI_add]; exact vp_in_nI (by omega) (by omega)
  obtain ⟨q, r, hq, hr, heq, hI2⟩ := pr I J K L C Mm (xs (nI i + (nI 1)).toNatClampNeg) hI
  refine lv_aload_n hx0 hb dL_law_384 rfl (lv_at hl 2 rfl) ?_
  refine lv_aload_n hx0 hb dL_law_385 rfl (lv_at hl 3 rfl) ?_
  refine lv_iload_n hx0 hb dL_law_386 rfl (lv_at hl 0 rfl) ?_
  refine lv_iconst (v := (nI 1)) hx0 hb dL_law_387 (by decide) ?_
  refine lv_iadd hx0 hb dL_law_388 ?_
  refine va_sld hx0 hb hX hbl hbA hS (hin 1 (by omega)) dL_law_389 ?_
  refine w_callV cx hP hD hS hA (c_X8_headOf g l hx (α 0) (α 4) (α 8) (α 9) (α 11) (α 14) (α 21) (α 23) (α 26) (α 1) (α 2) (α 3) (xs (nI i + (nI 1)).toNatClampNeg) (K 0) (K 1) (I 0) (I 1) hq) [0, 1, 2, 3] (pre_C rfl) (by decide) rfl (WW g hx α hm β I J K L C Mm) (pre_S (k := 49) rfl (by decide) rfl) 0 8 rfl rfl yq_X8_headOf rfl m_370 m_371 m_372 m_42 m_373 ⟨Nat.le_of_ble_eq_true rfl, Nat.le_of_ble_eq_true rfl⟩ rfl rfl hl.1 (Nat.le_of_ble_eq_true rfl) dL_law_390 ⟨Nat.le_of_ble_eq_true rfl, Nat.le_of_ble_eq_true rfl⟩ rfl (fun H locs hP hD hS => ?_)
  refine lv_aload_n hx0 hb dL_law_393 rfl (lv_at hl 1 rfl) ?_
  refine lv_aload_n hx0 hb dL_law_394 rfl (lv_at hl 3 rfl) ?_
  refine lv_iload_n hx0 hb dL_law_395 rfl (lv_at hl 0 rfl) ?_
  refine lv_iconst (v := (nI 1)) hx0 hb dL_law_396 (by decide) ?_
  refine lv_iadd hx0 hb dL_law_397 ?_
  refine va_sld hx0 hb hX hbl hbA hS (hin 1 (by omega)) dL_law_398 ?_
  refine w_callV cx hP hD hS hA (c_X9_headOf g l hm (β 0) (β 1) (β 2) (β 3) (β 4) (β 5) (β 6) (β 7) (β 8) (β 9) (β 10) (β 11) (β 12) (β 13) (β 14) (β 15) (β 16) (β 17) (xs (nI i + (nI 1)).toNatClampNeg) (K 11) (K 12) (K 13) (K 14) (I 10) hr) [30, 31] (pre_C rfl) (by decide) rfl (WW g hx α hm β I J K L C Mm) (pre_S (k := 49) rfl (by decide) rfl) 30 9 rfl rfl yq_X9_headOf rfl m_774 m_775 m_776 m_51 m_777 ⟨Nat.le_of_ble_eq_true rfl, Nat.le_of_ble_eq_true rfl⟩ rfl rfl hl.1 (Nat.le_of_ble_eq_true rfl) dL_law_399 ⟨Nat.le_of_ble_eq_true rfl, Nat.le_of_ble_eq_true rfl⟩ rfl (fun H locs hP hD hS => ?_)
  refine lv_icmp_eq (tgt := 918) hx0 hb dL_law_402 (by decide) (fun _ => ?_) (fun c_ => absurd heq c_)
  exact kk I J K L C Mm H locs hI2 hP hD hS
set_option maxHeartbeats 4000000 in
set_option maxRecDepth 100000 in
theorem law_follows (pr : Pr_follows) {g : GG} {p : Program} {l : Launch} {e : Env} {s : State} {m : MethodId} {below : List Frame} {meth : Method} {c : Code} {b Lx : Nat} {xs : Nat → Int32} {Q : State → Prop} (lc : LC g p s m c b Lx xs) {hx hm : Nat} {α β : Nat → Nat} {i : Nat} (hL : Lx ≤ 2048) (hi : i + 4 ≤ Lx) {I : Nat → Nat → Int32} {J : Nat → Nat → Int64} {K : Nat → Int32} {L : List Nat} {C : Nat → GC} {Mm : Nat → Nat → Int64} (hI : Inv I K L C) {H : Heap} {locs : List Loc} {ls : Array Slot} (hP : va_P (gD g) vwCl (WW g hx α hm β I J K L C Mm) H) (hD : va_D (fun q => s.heap.size ≤ q) (WW g hx α hm β I J K L C Mm)) (hS : va_S (fun q => s.heap.size ≤ q) s.heap H locs) (hl : lv_has ls 4 [(3, .int (nI i)), (2, .ref hm), (1, .ref hx), (0, .ref b)]) (kk : ∀ (I : Nat → Nat → Int32) (J : Nat → Nat → Int64) (K : Nat → Int32) (L : List Nat) (C : Nat → GC) (Mm : Nat → Nat → Int64) (H : Heap) (locs : List Loc), Inv I K L C → va_P (gD g) vwCl (WW g hx α hm β I J K L C Mm) H → va_D (fun q => s.heap.size ≤ q) (WW g hx α hm β I J K L C Mm) → va_S (fun q => s.heap.size ≤ q) s.heap H locs → W p l e room_1 s m #[Value.ref b] below meth c H locs 146 3014 Q (F0 m 918 ls [])) : W p l e room_1 s m #[Value.ref b] below meth c H locs 146 3014 Q (F0 m 407 ls []) := by
  obtain ⟨cx, hX, hbl⟩ := lc
  have hx0 := cx.1
  have hb := cx.2.1
  have hA : ∀ q : Nat, s.heap.size ≤ q → (fun q : Nat => s.heap.size ≤ q) q := fun _ h => h
  have hbA : ¬ (fun q : Nat => s.heap.size ≤ q) b := Nat.not_le.mpr hbl
  have hin : ∀ k : Nat, k < 4 → vp_in (nI i + nI k) Lx := fun k hk => by rw [nI_add]; exact vp_in_nI (by omega) (by omega)
  obtain ⟨q, r, hq, hr, heq, hI2⟩ := pr I J K L C Mm (xs (nI i + (nI 1)).toNatClampNeg) (xs (nI i + (nI 2)).toNatClampNeg) hI
  refine lv_aload_n hx0 hb dL_law_407 rfl (lv_at hl 2 rfl) ?_
  refine lv_aload_n hx0 hb dL_law_408 rfl (lv_at hl 3 rfl) ?_
  refine lv_iload_n hx0 hb dL_law_409 rfl (lv_at hl 0 rfl) ?_
  refine lv_iconst (v := (nI 1)) hx0 hb dL_law_410 (by decide) ?_
  refine lv_iadd hx0 hb dL_law_411 ?_
  refine va_sld hx0 hb hX hbl hbA hS (hin 1 (by omega)) dL_law_412 ?_
  refine lv_aload_n hx0 hb dL_law_413 rfl (lv_at hl 3 rfl) ?_
  refine lv_iload_n hx0 hb dL_law_414 rfl (lv_at hl 0 rfl) ?_
  refine lv_iconst (v := (nI 2)) hx0 hb dL_law_415 (by decide) ?_
  refine lv_iadd hx0 hb dL_law_416 ?_
  refine va_sld hx0 hb hX hbl hbA hS (hin 2 (by omega)) dL_law_417 ?_
  refine w_callV cx hP hD hS hA (c_X8_follows g l hx (α 0) (α 4) (α 8) (α 9) (α 11) (α 14) (α 21) (α 23) (α 26) (α 1) (α 2) (α 3) (xs (nI i + (nI 1)).toNatClampNeg) (xs (nI i + (nI 2)).toNatClampNeg) (K 0) (K 1) (I 0) (I 1) hq) [0, 1, 2, 3] (pre_C rfl) (by decide) rfl (WW g hx α hm β I J K L C Mm) (pre_S (k := 49) rfl (by decide) rfl) 0 8 rfl rfl yq_X8_follows rfl m_382 m_383 m_384 m_42 m_385 ⟨Nat.le_of_ble_eq_true rfl, Nat.le_of_ble_eq_true rfl⟩ rfl rfl hl.1 (Nat.le_of_ble_eq_true rfl) dL_law_418 ⟨Nat.le_of_ble_eq_true rfl, Nat.le_of_ble_eq_true rfl⟩ rfl (fun H locs hP hD hS => ?_)
  refine lv_aload_n hx0 hb dL_law_421 rfl (lv_at hl 1 rfl) ?_
  refine lv_aload_n hx0 hb dL_law_422 rfl (lv_at hl 3 rfl) ?_
  refine lv_iload_n hx0 hb dL_law_423 rfl (lv_at hl 0 rfl) ?_
  refine lv_iconst (v := (nI 1)) hx0 hb dL_law_424 (by decide) ?_
  refine lv_iadd hx0 hb dL_law_425 ?_
  refine va_sld hx0 hb hX hbl hbA hS (hin 1 (by omega)) dL_law_426 ?_
  refine lv_aload_n hx0 hb dL_law_427 rfl (lv_at hl 3 rfl) ?_
  refine lv_iload_n hx0 hb dL_law_428 rfl (lv_at hl 0 rfl) ?_
  refine lv_iconst (v := (nI 2)) hx0 hb dL_law_429 (by decide) ?_
  refine lv_iadd hx0 hb dL_law_430 ?_
  refine va_sld hx0 hb hX hbl hbA hS (hin 2 (by omega)) dL_law_431 ?_
  refine w_callV cx hP hD hS hA (c_X9_follows g l hm (β 0) (β 1) (β 2) (β 3) (β 4) (β 5) (β 6) (β 7) (β 8) (β 9) (β 10) (β 11) (β 12) (β 13) (β 14) (β 15) (β 16) (β 17) (xs (nI i + (nI 1)).toNatClampNeg) (xs (nI i + (nI 2)).toNatClampNeg) (K 11) (K 12) (K 13) (K 14) (I 10) hr) [30, 31] (pre_C rfl) (by decide) rfl (WW g hx α hm β I J K L C Mm) (pre_S (k := 49) rfl (by decide) rfl) 30 9 rfl rfl yq_X9_follows rfl m_786 m_787 m_788 m_51 m_789 ⟨Nat.le_of_ble_eq_true rfl, Nat.le_of_ble_eq_true rfl⟩ rfl rfl hl.1 (Nat.le_of_ble_eq_true rfl) dL_law_432 ⟨Nat.le_of_ble_eq_true rfl, Nat.le_of_ble_eq_true rfl⟩ rfl (fun H locs hP hD hS => ?_)
  refine lv_icmp_eq (tgt := 918) hx0 hb dL_law_435 (by decide) (fun _ => ?_) (fun c_ => absurd heq c_)
  exact kk I J K L C Mm H locs hI2 hP hD hS
set_option maxHeartbeats 4000000 in
set_option maxRecDepth 100000 in
theorem law_degree (pr : Pr_degree) {g : GG} {p : Program} {l : Launch} {e : Env} {s : State} {m : MethodId} {below : List Frame} {meth : Method} {c : Code} {b Lx : Nat} {xs : Nat → Int32} {Q : State → Prop} (lc : LC g p s m c b Lx xs) {hx hm : Nat} {α β : Nat → Nat} {i : Nat} (hL : Lx ≤ 2048) (hi : i + 4 ≤ Lx) {I : Nat → Nat → Int32} {J : Nat → Nat → Int64} {K : Nat → Int32} {L : List Nat} {C : Nat → GC} {Mm : Nat → Nat → Int64} (hI : Inv I K L C) {H : Heap} {locs : List Loc} {ls : Array Slot} (hP : va_P (gD g) vwCl (WW g hx α hm β I J K L C Mm) H) (hD : va_D (fun q => s.heap.size ≤ q) (WW g hx α hm β I J K L C Mm)) (hS : va_S (fun q => s.heap.size ≤ q) s.heap H locs) (hl : lv_has ls 4 [(3, .int (nI i)), (2, .ref hm), (1, .ref hx), (0, .ref b)]) (kk : ∀ (I : Nat → Nat → Int32) (J : Nat → Nat → Int64) (K : Nat → Int32) (L : List Nat) (C : Nat → GC) (Mm : Nat → Nat → Int64) (H : Heap) (locs : List Loc), Inv I K L C → va_P (gD g) vwCl (WW g hx α hm β I J K L C Mm) H → va_D (fun q => s.heap.size ≤ q) (WW g hx α hm β I J K L C Mm) → va_S (fun q => s.heap.size ≤ q) s.heap H locs → W p l e room_1 s m #[Value.ref b] below meth c H locs 146 3014 Q (F0 m 918 ls [])) : W p l e room_1 s m #[Value.ref b] below meth c H locs 146 3014 Q (F0 m 440 ls []) := by
  obtain ⟨cx, hX, hbl⟩ := lc
  have hx0 := cx.1
  have hb := cx.2.1
  have hA : ∀ q : Nat, s.heap.size ≤ q → (fun q : Nat => s.heap.size ≤ q) q := fun _ h => h
  have hbA : ¬ (fun q : Nat => s.heap.size ≤ q) b := Nat.not_le.mpr hbl
  have hin : ∀ k : Nat, k < 4 → vp_in (nI i + nI k) Lx := fun k hk => by rw [nI_add]; exact vp_in_nI (by omega) (by omega)
  obtain ⟨q, r, hq, hr, heq, hI2⟩ := pr I J K L C Mm (xs (nI i + (nI 1)).toNatClampNeg) hI
  refine lv_aload_n hx0 hb dL_law_440 rfl (lv_at hl 2 rfl) ?_
  refine lv_aload_n hx0 hb dL_law_441 rfl (lv_at hl 3 rfl) ?_
  refine lv_iload_n hx0 hb dL_law_442 rfl (lv_at hl 0 rfl) ?_
  refine lv_iconst (v := (nI 1)) hx0 hb dL_law_443 (by decide) ?_
  refine lv_iadd hx0 hb dL_law_444 ?_
  refine va_sld hx0 hb hX hbl hbA hS (hin 1 (by omega)) dL_law_445 ?_
  refine w_callV cx hP hD hS hA (c_X8_degree g l hx (α 0) (α 4) (α 8) (α 9) (α 11) (α 14) (α 21) (α 23) (α 26) (α 1) (α 2) (α 3) (xs (nI i + (nI 1)).toNatClampNeg) (K 0) (K 1) (I 0) (I 1) hq) [0, 1, 2, 3] (pre_C rfl) (by decide) rfl (WW g hx α hm β I J K L C Mm) (pre_S (k := 49) rfl (by decide) rfl) 0 8 rfl rfl yq_X8_degree rfl m_395 m_396 m_397 m_42 m_398 ⟨Nat.le_of_ble_eq_true rfl, Nat.le_of_ble_eq_true rfl⟩ rfl rfl hl.1 (Nat.le_of_ble_eq_true rfl) dL_law_446 ⟨Nat.le_of_ble_eq_true rfl, Nat.le_of_ble_eq_true rfl⟩ rfl (fun H locs hP hD hS => ?_)
  refine lv_aload_n hx0 hb dL_law_449 rfl (lv_at hl 1 rfl) ?_
  refine lv_aload_n hx0 hb dL_law_450 rfl (lv_at hl 3 rfl) ?_
  refine lv_iload_n hx0 hb dL_law_451 rfl (lv_at hl 0 rfl) ?_
  refine lv_iconst (v := (nI 1)) hx0 hb dL_law_452 (by decide) ?_
  refine lv_iadd hx0 hb dL_law_453 ?_
  refine va_sld hx0 hb hX hbl hbA hS (hin 1 (by omega)) dL_law_454 ?_
  refine w_callV cx hP hD hS hA (c_X9_degree g l hm (β 0) (β 1) (β 2) (β 3) (β 4) (β 5) (β 6) (β 7) (β 8) (β 9) (β 10) (β 11) (β 12) (β 13) (β 14) (β 15) (β 16) (β 17) (xs (nI i + (nI 1)).toNatClampNeg) (K 11) (K 12) (K 13) (K 14) (I 10) hr) [30, 31] (pre_C rfl) (by decide) rfl (WW g hx α hm β I J K L C Mm) (pre_S (k := 49) rfl (by decide) rfl) 30 9 rfl rfl yq_X9_degree rfl m_794 m_795 m_796 m_51 m_797 ⟨Nat.le_of_ble_eq_true rfl, Nat.le_of_ble_eq_true rfl⟩ rfl rfl hl.1 (Nat.le_of_ble_eq_true rfl) dL_law_455 ⟨Nat.le_of_ble_eq_true rfl, Nat.le_of_ble_eq_true rfl⟩ rfl (fun H locs hP hD hS => ?_)
  refine lv_icmp_eq (tgt := 918) hx0 hb dL_law_458 (by decide) (fun _ => ?_) (fun c_ => absurd heq c_)
  exact kk I J K L C Mm H locs hI2 hP hD hS
set_option maxHeartbeats 4000000 in
set_option maxRecDepth 100000 in
theorem law_components (pr : Pr_components) {g : GG} {p : Program} {l : Launch} {e : Env} {s : State} {m : MethodId} {below : List Frame} {meth : Method} {c : Code} {b Lx : Nat} {xs : Nat → Int32} {Q : State → Prop} (lc : LC g p s m c b Lx xs) {hx hm : Nat} {α β : Nat → Nat} {i : Nat} (hL : Lx ≤ 2048) (hi : i + 4 ≤ Lx) {I : Nat → Nat → Int32} {J : Nat → Nat → Int64} {K : Nat → Int32} {L : List Nat} {C : Nat → GC} {Mm : Nat → Nat → Int64} (hI : Inv I K L C) {H : Heap} {locs : List Loc} {ls : Array Slot} (hP : va_P (gD g) vwCl (WW g hx α hm β I J K L C Mm) H) (hD : va_D (fun q => s.heap.size ≤ q) (WW g hx α hm β I J K L C Mm)) (hS : va_S (fun q => s.heap.size ≤ q) s.heap H locs) (hl : lv_has ls 4 [(3, .int (nI i)), (2, .ref hm), (1, .ref hx), (0, .ref b)]) (kk : ∀ (I : Nat → Nat → Int32) (J : Nat → Nat → Int64) (K : Nat → Int32) (L : List Nat) (C : Nat → GC) (Mm : Nat → Nat → Int64) (H : Heap) (locs : List Loc), Inv I K L C → va_P (gD g) vwCl (WW g hx α hm β I J K L C Mm) H → va_D (fun q => s.heap.size ≤ q) (WW g hx α hm β I J K L C Mm) → va_S (fun q => s.heap.size ≤ q) s.heap H locs → W p l e room_1 s m #[Value.ref b] below meth c H locs 146 3014 Q (F0 m 918 ls [])) : W p l e room_1 s m #[Value.ref b] below meth c H locs 146 3014 Q (F0 m 463 ls []) := by
  obtain ⟨cx, hX, hbl⟩ := lc
  have hx0 := cx.1
  have hb := cx.2.1
  have hA : ∀ q : Nat, s.heap.size ≤ q → (fun q : Nat => s.heap.size ≤ q) q := fun _ h => h
  have hbA : ¬ (fun q : Nat => s.heap.size ≤ q) b := Nat.not_le.mpr hbl
  have hin : ∀ k : Nat, k < 4 → vp_in (nI i + nI k) Lx := fun k hk => by rw [nI_add]; exact vp_in_nI (by omega) (by omega)
  obtain ⟨q, r, hq, hr, heq, hI2⟩ := pr I J K L C Mm  hI
  refine lv_aload_n hx0 hb dL_law_463 rfl (lv_at hl 2 rfl) ?_
  refine w_callV cx hP hD hS hA (c_X8_components g l hx (α 0) (α 4) (α 8) (α 9) (α 11) (α 14) (α 21) (α 23) (α 26) (α 1) (α 2) (α 3) (α 12) (α 13) (K 0) (K 1) (I 0) (I 1) (I 2) (I 7) (I 8) hq) [0, 1, 2, 3, 4, 12, 13, 14] (pre_C rfl) (by decide) rfl (WW g hx α hm β (upf (upf I 7 q.2.1) 8 q.2.2) J K L C Mm) (pre_S (k := 49) rfl (by decide) rfl) 0 8 rfl rfl yq_X8_components rfl m_403 m_404 m_405 m_42 m_406 ⟨Nat.le_of_ble_eq_true rfl, Nat.le_of_ble_eq_true rfl⟩ rfl rfl hl.1 (Nat.le_of_ble_eq_true rfl) dL_law_464 ⟨Nat.le_of_ble_eq_true rfl, Nat.le_of_ble_eq_true rfl⟩ rfl (fun H locs hP hD hS => ?_)
  refine lv_aload_n hx0 hb dL_law_467 rfl (lv_at hl 1 rfl) ?_
  refine w_callV cx hP hD hS hA (c_X9_components g l hm (β 0) (β 1) (β 2) (β 3) (β 4) (β 5) (β 6) (β 7) (β 8) (β 9) (β 10) (β 11) (β 12) (β 13) (β 14) (β 15) (β 16) (β 17) (K 11) (K 12) (K 13) (K 14) (I 10) (I 14) hr) [30, 31, 35] (pre_C rfl) (by decide) rfl (WW g hx α hm β (upf (upf (upf I 7 q.2.1) 8 q.2.2) 14 r.2) J K L C Mm) (pre_S (k := 49) rfl (by decide) rfl) 30 9 rfl rfl yq_X9_components rfl m_802 m_803 m_804 m_51 m_805 ⟨Nat.le_of_ble_eq_true rfl, Nat.le_of_ble_eq_true rfl⟩ rfl rfl hl.1 (Nat.le_of_ble_eq_true rfl) dL_law_468 ⟨Nat.le_of_ble_eq_true rfl, Nat.le_of_ble_eq_true rfl⟩ rfl (fun H locs hP hD hS => ?_)
  refine lv_icmp_eq (tgt := 918) hx0 hb dL_law_471 (by decide) (fun _ => ?_) (fun c_ => absurd heq c_)
  exact kk (upf (upf (upf I 7 q.2.1) 8 q.2.2) 14 r.2) J K L C Mm H locs hI2 hP hD hS
set_option maxHeartbeats 4000000 in
set_option maxRecDepth 100000 in
theorem law_rank (pr : Pr_rank) {g : GG} {p : Program} {l : Launch} {e : Env} {s : State} {m : MethodId} {below : List Frame} {meth : Method} {c : Code} {b Lx : Nat} {xs : Nat → Int32} {Q : State → Prop} (lc : LC g p s m c b Lx xs) {hx hm : Nat} {α β : Nat → Nat} {i : Nat} (hL : Lx ≤ 2048) (hi : i + 4 ≤ Lx) {I : Nat → Nat → Int32} {J : Nat → Nat → Int64} {K : Nat → Int32} {L : List Nat} {C : Nat → GC} {Mm : Nat → Nat → Int64} (hI : Inv I K L C) {H : Heap} {locs : List Loc} {ls : Array Slot} (hP : va_P (gD g) vwCl (WW g hx α hm β I J K L C Mm) H) (hD : va_D (fun q => s.heap.size ≤ q) (WW g hx α hm β I J K L C Mm)) (hS : va_S (fun q => s.heap.size ≤ q) s.heap H locs) (hl : lv_has ls 4 [(3, .int (nI i)), (2, .ref hm), (1, .ref hx), (0, .ref b)]) (kk : ∀ (I : Nat → Nat → Int32) (J : Nat → Nat → Int64) (K : Nat → Int32) (L : List Nat) (C : Nat → GC) (Mm : Nat → Nat → Int64) (H : Heap) (locs : List Loc), Inv I K L C → va_P (gD g) vwCl (WW g hx α hm β I J K L C Mm) H → va_D (fun q => s.heap.size ≤ q) (WW g hx α hm β I J K L C Mm) → va_S (fun q => s.heap.size ≤ q) s.heap H locs → W p l e room_1 s m #[Value.ref b] below meth c H locs 146 3014 Q (F0 m 918 ls [])) : W p l e room_1 s m #[Value.ref b] below meth c H locs 146 3014 Q (F0 m 476 ls []) := by
  obtain ⟨cx, hX, hbl⟩ := lc
  have hx0 := cx.1
  have hb := cx.2.1
  have hA : ∀ q : Nat, s.heap.size ≤ q → (fun q : Nat => s.heap.size ≤ q) q := fun _ h => h
  have hbA : ¬ (fun q : Nat => s.heap.size ≤ q) b := Nat.not_le.mpr hbl
  have hin : ∀ k : Nat, k < 4 → vp_in (nI i + nI k) Lx := fun k hk => by rw [nI_add]; exact vp_in_nI (by omega) (by omega)
  obtain ⟨q, r, hq, hr, heq, hI2⟩ := pr I J K L C Mm  hI
  refine lv_aload_n hx0 hb dL_law_476 rfl (lv_at hl 2 rfl) ?_
  refine w_callV cx hP hD hS hA (c_X8_rank g l hx (α 0) (α 4) (α 8) (α 9) (α 11) (α 14) (α 21) (α 23) (α 26) (α 1) (α 2) (α 3) (α 12) (α 13) (K 0) (K 1) (I 0) (I 1) (I 2) (I 7) (I 8) hq) [0, 1, 2, 3, 4, 12, 13, 14] (pre_C rfl) (by decide) rfl (WW g hx α hm β (upf (upf I 7 q.2.1) 8 q.2.2) J K L C Mm) (pre_S (k := 49) rfl (by decide) rfl) 0 8 rfl rfl yq_X8_rank rfl m_423 m_424 m_425 m_42 m_426 ⟨Nat.le_of_ble_eq_true rfl, Nat.le_of_ble_eq_true rfl⟩ rfl rfl hl.1 (Nat.le_of_ble_eq_true rfl) dL_law_477 ⟨Nat.le_of_ble_eq_true rfl, Nat.le_of_ble_eq_true rfl⟩ rfl (fun H locs hP hD hS => ?_)
  refine lv_aload_n hx0 hb dL_law_480 rfl (lv_at hl 1 rfl) ?_
  refine w_callV cx hP hD hS hA (c_X9_rank g l hm (β 0) (β 1) (β 2) (β 3) (β 4) (β 5) (β 6) (β 7) (β 8) (β 9) (β 10) (β 11) (β 12) (β 13) (β 14) (β 15) (β 16) (β 17) (K 11) (K 12) (K 13) (K 14) (I 10) (I 14) hr) [30, 31, 35] (pre_C rfl) (by decide) rfl (WW g hx α hm β (upf (upf (upf I 7 q.2.1) 8 q.2.2) 14 r.2) J K L C Mm) (pre_S (k := 49) rfl (by decide) rfl) 30 9 rfl rfl yq_X9_rank rfl m_810 m_811 m_812 m_51 m_813 ⟨Nat.le_of_ble_eq_true rfl, Nat.le_of_ble_eq_true rfl⟩ rfl rfl hl.1 (Nat.le_of_ble_eq_true rfl) dL_law_481 ⟨Nat.le_of_ble_eq_true rfl, Nat.le_of_ble_eq_true rfl⟩ rfl (fun H locs hP hD hS => ?_)
  refine lv_icmp_eq (tgt := 918) hx0 hb dL_law_484 (by decide) (fun _ => ?_) (fun c_ => absurd heq c_)
  exact kk (upf (upf (upf I 7 q.2.1) 8 q.2.2) 14 r.2) J K L C Mm H locs hI2 hP hD hS
set_option maxHeartbeats 4000000 in
set_option maxRecDepth 100000 in
theorem law_isBalanced (pr : Pr_isBalanced) {g : GG} {p : Program} {l : Launch} {e : Env} {s : State} {m : MethodId} {below : List Frame} {meth : Method} {c : Code} {b Lx : Nat} {xs : Nat → Int32} {Q : State → Prop} (lc : LC g p s m c b Lx xs) {hx hm : Nat} {α β : Nat → Nat} {i : Nat} (hL : Lx ≤ 2048) (hi : i + 4 ≤ Lx) {I : Nat → Nat → Int32} {J : Nat → Nat → Int64} {K : Nat → Int32} {L : List Nat} {C : Nat → GC} {Mm : Nat → Nat → Int64} (hI : Inv I K L C) {H : Heap} {locs : List Loc} {ls : Array Slot} (hP : va_P (gD g) vwCl (WW g hx α hm β I J K L C Mm) H) (hD : va_D (fun q => s.heap.size ≤ q) (WW g hx α hm β I J K L C Mm)) (hS : va_S (fun q => s.heap.size ≤ q) s.heap H locs) (hl : lv_has ls 4 [(3, .int (nI i)), (2, .ref hm), (1, .ref hx), (0, .ref b)]) (kk : ∀ (I : Nat → Nat → Int32) (J : Nat → Nat → Int64) (K : Nat → Int32) (L : List Nat) (C : Nat → GC) (Mm : Nat → Nat → Int64) (H : Heap) (locs : List Loc), Inv I K L C → va_P (gD g) vwCl (WW g hx α hm β I J K L C Mm) H → va_D (fun q => s.heap.size ≤ q) (WW g hx α hm β I J K L C Mm) → va_S (fun q => s.heap.size ≤ q) s.heap H locs → W p l e room_1 s m #[Value.ref b] below meth c H locs 146 3014 Q (F0 m 918 ls [])) : W p l e room_1 s m #[Value.ref b] below meth c H locs 146 3014 Q (F0 m 489 ls []) := by
  obtain ⟨cx, hX, hbl⟩ := lc
  have hx0 := cx.1
  have hb := cx.2.1
  have hA : ∀ q : Nat, s.heap.size ≤ q → (fun q : Nat => s.heap.size ≤ q) q := fun _ h => h
  have hbA : ¬ (fun q : Nat => s.heap.size ≤ q) b := Nat.not_le.mpr hbl
  have hin : ∀ k : Nat, k < 4 → vp_in (nI i + nI k) Lx := fun k hk => by rw [nI_add]; exact vp_in_nI (by omega) (by omega)
  obtain ⟨q, r, hq, hr, heq, hI2⟩ := pr I J K L C Mm  hI
  refine lv_aload_n hx0 hb dL_law_489 rfl (lv_at hl 2 rfl) ?_
  refine w_callV cx hP hD hS hA (c_X8_isBalanced g l hx (α 0) (α 4) (α 8) (α 9) (α 11) (α 14) (α 21) (α 23) (α 26) (α 1) (α 2) (α 3) (α 12) (α 13) (K 0) (K 1) (I 0) (I 1) (I 2) (I 7) (I 8) hq) [0, 1, 2, 3, 4, 12, 13, 14] (pre_C rfl) (by decide) rfl (WW g hx α hm β (upf (upf I 7 q.2.1) 8 q.2.2) J K L C Mm) (pre_S (k := 49) rfl (by decide) rfl) 0 8 rfl rfl yq_X8_isBalanced rfl m_427 m_428 m_429 m_42 m_430 ⟨Nat.le_of_ble_eq_true rfl, Nat.le_of_ble_eq_true rfl⟩ rfl rfl hl.1 (Nat.le_of_ble_eq_true rfl) dL_law_490 ⟨Nat.le_of_ble_eq_true rfl, Nat.le_of_ble_eq_true rfl⟩ rfl (fun H locs hP hD hS => ?_)
  refine lv_aload_n hx0 hb dL_law_493 rfl (lv_at hl 1 rfl) ?_
  refine w_callV cx hP hD hS hA (c_X9_isBalanced g l hm (β 0) (β 1) (β 2) (β 3) (β 4) (β 5) (β 6) (β 7) (β 8) (β 9) (β 10) (β 11) (β 12) (β 13) (β 14) (β 15) (β 16) (β 17) (K 11) (K 12) (K 13) (K 14) (I 10) hr) [30, 31] (pre_C rfl) (by decide) rfl (WW g hx α hm β (upf (upf I 7 q.2.1) 8 q.2.2) J K L C Mm) (pre_S (k := 49) rfl (by decide) rfl) 30 9 rfl rfl yq_X9_isBalanced rfl m_814 m_815 m_816 m_51 m_817 ⟨Nat.le_of_ble_eq_true rfl, Nat.le_of_ble_eq_true rfl⟩ rfl rfl hl.1 (Nat.le_of_ble_eq_true rfl) dL_law_494 ⟨Nat.le_of_ble_eq_true rfl, Nat.le_of_ble_eq_true rfl⟩ rfl (fun H locs hP hD hS => ?_)
  refine lv_icmp_eq (tgt := 918) hx0 hb dL_law_497 (by decide) (fun _ => ?_) (fun c_ => absurd heq c_)
  exact kk (upf (upf I 7 q.2.1) 8 q.2.2) J K L C Mm H locs hI2 hP hD hS
set_option maxHeartbeats 4000000 in
set_option maxRecDepth 100000 in
theorem law_walks (pr : Pr_walks) {g : GG} {p : Program} {l : Launch} {e : Env} {s : State} {m : MethodId} {below : List Frame} {meth : Method} {c : Code} {b Lx : Nat} {xs : Nat → Int32} {Q : State → Prop} (lc : LC g p s m c b Lx xs) {hx hm : Nat} {α β : Nat → Nat} {i : Nat} (hL : Lx ≤ 2048) (hi : i + 4 ≤ Lx) {I : Nat → Nat → Int32} {J : Nat → Nat → Int64} {K : Nat → Int32} {L : List Nat} {C : Nat → GC} {Mm : Nat → Nat → Int64} (hI : Inv I K L C) {H : Heap} {locs : List Loc} {ls : Array Slot} (hP : va_P (gD g) vwCl (WW g hx α hm β I J K L C Mm) H) (hD : va_D (fun q => s.heap.size ≤ q) (WW g hx α hm β I J K L C Mm)) (hS : va_S (fun q => s.heap.size ≤ q) s.heap H locs) (hl : lv_has ls 4 [(3, .int (nI i)), (2, .ref hm), (1, .ref hx), (0, .ref b)]) (kk : ∀ (I : Nat → Nat → Int32) (J : Nat → Nat → Int64) (K : Nat → Int32) (L : List Nat) (C : Nat → GC) (Mm : Nat → Nat → Int64) (H : Heap) (locs : List Loc), Inv I K L C → va_P (gD g) vwCl (WW g hx α hm β I J K L C Mm) H → va_D (fun q => s.heap.size ≤ q) (WW g hx α hm β I J K L C Mm) → va_S (fun q => s.heap.size ≤ q) s.heap H locs → W p l e room_1 s m #[Value.ref b] below meth c H locs 146 3014 Q (F0 m 918 ls [])) : W p l e room_1 s m #[Value.ref b] below meth c H locs 146 3014 Q (F0 m 502 ls []) := by
  obtain ⟨cx, hX, hbl⟩ := lc
  have hx0 := cx.1
  have hb := cx.2.1
  have hA : ∀ q : Nat, s.heap.size ≤ q → (fun q : Nat => s.heap.size ≤ q) q := fun _ h => h
  have hbA : ¬ (fun q : Nat => s.heap.size ≤ q) b := Nat.not_le.mpr hbl
  have hin : ∀ k : Nat, k < 4 → vp_in (nI i + nI k) Lx := fun k hk => by rw [nI_add]; exact vp_in_nI (by omega) (by omega)
  obtain ⟨q, r, hq, hr, heq, hI2⟩ := pr I J K L C Mm (xs (nI i + (nI 1)).toNatClampNeg) hI
  refine lv_aload_n hx0 hb dL_law_502 rfl (lv_at hl 2 rfl) ?_
  refine lv_aload_n hx0 hb dL_law_503 rfl (lv_at hl 3 rfl) ?_
  refine lv_iload_n hx0 hb dL_law_504 rfl (lv_at hl 0 rfl) ?_
  refine lv_iconst (v := (nI 1)) hx0 hb dL_law_505 (by decide) ?_
  refine lv_iadd hx0 hb dL_law_506 ?_
  refine va_sld hx0 hb hX hbl hbA hS (hin 1 (by omega)) dL_law_507 ?_
  refine w_callV cx hP hD hS hA (c_X8_walks g l hx (α 0) (α 4) (α 8) (α 9) (α 11) (α 14) (α 21) (α 23) (α 26) (α 1) (α 2) (α 3) (α 15) (α 16) (α 17) (α 18) (α 19) (α 20) (xs (nI i + (nI 1)).toNatClampNeg) (K 0) (K 1) (I 0) (I 1) (I 2) (J 0) (J 4) (J 5) hq) [0, 1, 2, 3, 4, 15, 16, 20, 21] (pre_C rfl) (by decide) rfl (WW g hx α hm β I (upf (upf (upf J 0 q.2.1) 4 q.2.2.1) 5 q.2.2.2) K L C Mm) (pre_S (k := 49) rfl (by decide) rfl) 0 8 rfl rfl yq_X8_walks rfl m_435 m_436 m_437 m_42 m_438 ⟨Nat.le_of_ble_eq_true rfl, Nat.le_of_ble_eq_true rfl⟩ rfl rfl hl.1 (Nat.le_of_ble_eq_true rfl) dL_law_508 ⟨Nat.le_of_ble_eq_true rfl, Nat.le_of_ble_eq_true rfl⟩ rfl (fun H locs hP hD hS => ?_)
  refine lv_aload_n hx0 hb dL_law_511 rfl (lv_at hl 1 rfl) ?_
  refine lv_aload_n hx0 hb dL_law_512 rfl (lv_at hl 3 rfl) ?_
  refine lv_iload_n hx0 hb dL_law_513 rfl (lv_at hl 0 rfl) ?_
  refine lv_iconst (v := (nI 1)) hx0 hb dL_law_514 (by decide) ?_
  refine lv_iadd hx0 hb dL_law_515 ?_
  refine va_sld hx0 hb hX hbl hbA hS (hin 1 (by omega)) dL_law_516 ?_
  refine w_callV cx hP hD hS hA (c_X9_walks g l hm (β 0) (β 1) (β 2) (β 3) (β 4) (β 5) (β 6) (β 7) (β 8) (β 9) (β 10) (β 11) (β 12) (β 13) (β 14) (β 15) (β 16) (β 17) (xs (nI i + (nI 1)).toNatClampNeg) (K 11) (K 12) (K 13) (K 14) (I 10) (J 9) (J 10) (J 11) (J 17) hr) [30, 31, 36, 37, 38, 44] (pre_C rfl) (by decide) rfl (WW g hx α hm β I (upf (upf (upf (upf (upf (upf (upf J 0 q.2.1) 4 q.2.2.1) 5 q.2.2.2) 9 r.2.2.1) 10 r.2.2.2.1) 11 r.2.2.2.2.1) 17 r.2.2.2.2.2) (upf K 14 r.2.1) L C Mm) (pre_S (k := 49) rfl (by decide) rfl) 30 9 rfl rfl yq_X9_walks rfl m_822 m_823 m_824 m_51 m_825 ⟨Nat.le_of_ble_eq_true rfl, Nat.le_of_ble_eq_true rfl⟩ rfl rfl hl.1 (Nat.le_of_ble_eq_true rfl) dL_law_517 ⟨Nat.le_of_ble_eq_true rfl, Nat.le_of_ble_eq_true rfl⟩ rfl (fun H locs hP hD hS => ?_)
  refine W.lcmp hx0 hb dL_law_520 ?_
  refine lv_if_eq (tgt := 918) hx0 hb dL_law_521 (by decide) (fun _ => ?_) (fun c_ => absurd (cmp_eq heq) c_)
  exact kk I (upf (upf (upf (upf (upf (upf (upf J 0 q.2.1) 4 q.2.2.1) 5 q.2.2.2) 9 r.2.2.1) 10 r.2.2.2.1) 11 r.2.2.2.2.1) 17 r.2.2.2.2.2) (upf K 14 r.2.1) L C Mm H locs hI2 hP hD hS
set_option maxHeartbeats 4000000 in
set_option maxRecDepth 100000 in
theorem law_signedWalks (pr : Pr_signedWalks) {g : GG} {p : Program} {l : Launch} {e : Env} {s : State} {m : MethodId} {below : List Frame} {meth : Method} {c : Code} {b Lx : Nat} {xs : Nat → Int32} {Q : State → Prop} (lc : LC g p s m c b Lx xs) {hx hm : Nat} {α β : Nat → Nat} {i : Nat} (hL : Lx ≤ 2048) (hi : i + 4 ≤ Lx) {I : Nat → Nat → Int32} {J : Nat → Nat → Int64} {K : Nat → Int32} {L : List Nat} {C : Nat → GC} {Mm : Nat → Nat → Int64} (hI : Inv I K L C) {H : Heap} {locs : List Loc} {ls : Array Slot} (hP : va_P (gD g) vwCl (WW g hx α hm β I J K L C Mm) H) (hD : va_D (fun q => s.heap.size ≤ q) (WW g hx α hm β I J K L C Mm)) (hS : va_S (fun q => s.heap.size ≤ q) s.heap H locs) (hl : lv_has ls 4 [(3, .int (nI i)), (2, .ref hm), (1, .ref hx), (0, .ref b)]) (kk : ∀ (I : Nat → Nat → Int32) (J : Nat → Nat → Int64) (K : Nat → Int32) (L : List Nat) (C : Nat → GC) (Mm : Nat → Nat → Int64) (H : Heap) (locs : List Loc), Inv I K L C → va_P (gD g) vwCl (WW g hx α hm β I J K L C Mm) H → va_D (fun q => s.heap.size ≤ q) (WW g hx α hm β I J K L C Mm) → va_S (fun q => s.heap.size ≤ q) s.heap H locs → W p l e room_1 s m #[Value.ref b] below meth c H locs 146 3014 Q (F0 m 918 ls [])) : W p l e room_1 s m #[Value.ref b] below meth c H locs 146 3014 Q (F0 m 526 ls []) := by
  obtain ⟨cx, hX, hbl⟩ := lc
  have hx0 := cx.1
  have hb := cx.2.1
  have hA : ∀ q : Nat, s.heap.size ≤ q → (fun q : Nat => s.heap.size ≤ q) q := fun _ h => h
  have hbA : ¬ (fun q : Nat => s.heap.size ≤ q) b := Nat.not_le.mpr hbl
  have hin : ∀ k : Nat, k < 4 → vp_in (nI i + nI k) Lx := fun k hk => by rw [nI_add]; exact vp_in_nI (by omega) (by omega)
  obtain ⟨q, r, hq, hr, heq, hI2⟩ := pr I J K L C Mm (xs (nI i + (nI 1)).toNatClampNeg) hI
  refine lv_aload_n hx0 hb dL_law_526 rfl (lv_at hl 2 rfl) ?_
  refine lv_aload_n hx0 hb dL_law_527 rfl (lv_at hl 3 rfl) ?_
  refine lv_iload_n hx0 hb dL_law_528 rfl (lv_at hl 0 rfl) ?_
  refine lv_iconst (v := (nI 1)) hx0 hb dL_law_529 (by decide) ?_
  refine lv_iadd hx0 hb dL_law_530 ?_
  refine va_sld hx0 hb hX hbl hbA hS (hin 1 (by omega)) dL_law_531 ?_
  refine w_callV cx hP hD hS hA (c_X8_signedWalks g l hx (α 0) (α 4) (α 8) (α 9) (α 11) (α 14) (α 21) (α 23) (α 26) (α 1) (α 2) (α 3) (α 15) (α 16) (α 17) (α 18) (α 19) (α 20) (xs (nI i + (nI 1)).toNatClampNeg) (K 0) (K 1) (I 0) (I 1) (I 2) (J 1) (J 4) (J 5) hq) [0, 1, 2, 3, 4, 15, 17, 20, 21] (pre_C rfl) (by decide) rfl (WW g hx α hm β I (upf (upf (upf J 1 q.2.1) 4 q.2.2.1) 5 q.2.2.2) K L C Mm) (pre_S (k := 49) rfl (by decide) rfl) 0 8 rfl rfl yq_X8_signedWalks rfl m_461 m_462 m_463 m_42 m_464 ⟨Nat.le_of_ble_eq_true rfl, Nat.le_of_ble_eq_true rfl⟩ rfl rfl hl.1 (Nat.le_of_ble_eq_true rfl) dL_law_532 ⟨Nat.le_of_ble_eq_true rfl, Nat.le_of_ble_eq_true rfl⟩ rfl (fun H locs hP hD hS => ?_)
  refine lv_aload_n hx0 hb dL_law_535 rfl (lv_at hl 1 rfl) ?_
  refine lv_aload_n hx0 hb dL_law_536 rfl (lv_at hl 3 rfl) ?_
  refine lv_iload_n hx0 hb dL_law_537 rfl (lv_at hl 0 rfl) ?_
  refine lv_iconst (v := (nI 1)) hx0 hb dL_law_538 (by decide) ?_
  refine lv_iadd hx0 hb dL_law_539 ?_
  refine va_sld hx0 hb hX hbl hbA hS (hin 1 (by omega)) dL_law_540 ?_
  refine w_callV cx hP hD hS hA (c_X9_signedWalks g l hm (β 0) (β 1) (β 2) (β 3) (β 4) (β 5) (β 6) (β 7) (β 8) (β 9) (β 10) (β 11) (β 12) (β 13) (β 14) (β 15) (β 16) (β 17) (xs (nI i + (nI 1)).toNatClampNeg) (K 11) (K 12) (K 13) (K 14) (I 10) (J 9) (J 10) (J 11) (J 17) hr) [30, 31, 36, 37, 38, 44] (pre_C rfl) (by decide) rfl (WW g hx α hm β I (upf (upf (upf (upf (upf (upf (upf J 1 q.2.1) 4 q.2.2.1) 5 q.2.2.2) 9 r.2.2.1) 10 r.2.2.2.1) 11 r.2.2.2.2.1) 17 r.2.2.2.2.2) (upf K 14 r.2.1) L C Mm) (pre_S (k := 49) rfl (by decide) rfl) 30 9 rfl rfl yq_X9_signedWalks rfl m_846 m_847 m_848 m_51 m_849 ⟨Nat.le_of_ble_eq_true rfl, Nat.le_of_ble_eq_true rfl⟩ rfl rfl hl.1 (Nat.le_of_ble_eq_true rfl) dL_law_541 ⟨Nat.le_of_ble_eq_true rfl, Nat.le_of_ble_eq_true rfl⟩ rfl (fun H locs hP hD hS => ?_)
  refine W.lcmp hx0 hb dL_law_544 ?_
  refine lv_if_eq (tgt := 918) hx0 hb dL_law_545 (by decide) (fun _ => ?_) (fun c_ => absurd (cmp_eq heq) c_)
  exact kk I (upf (upf (upf (upf (upf (upf (upf J 1 q.2.1) 4 q.2.2.1) 5 q.2.2.2) 9 r.2.2.1) 10 r.2.2.2.1) 11 r.2.2.2.2.1) 17 r.2.2.2.2.2) (upf K 14 r.2.1) L C Mm H locs hI2 hP hD hS
set_option maxHeartbeats 4000000 in
set_option maxRecDepth 100000 in
theorem law_coverWalks (pr : Pr_coverWalks) {g : GG} {p : Program} {l : Launch} {e : Env} {s : State} {m : MethodId} {below : List Frame} {meth : Method} {c : Code} {b Lx : Nat} {xs : Nat → Int32} {Q : State → Prop} (lc : LC g p s m c b Lx xs) {hx hm : Nat} {α β : Nat → Nat} {i : Nat} (hL : Lx ≤ 2048) (hi : i + 4 ≤ Lx) {I : Nat → Nat → Int32} {J : Nat → Nat → Int64} {K : Nat → Int32} {L : List Nat} {C : Nat → GC} {Mm : Nat → Nat → Int64} (hI : Inv I K L C) {H : Heap} {locs : List Loc} {ls : Array Slot} (hP : va_P (gD g) vwCl (WW g hx α hm β I J K L C Mm) H) (hD : va_D (fun q => s.heap.size ≤ q) (WW g hx α hm β I J K L C Mm)) (hS : va_S (fun q => s.heap.size ≤ q) s.heap H locs) (hl : lv_has ls 4 [(3, .int (nI i)), (2, .ref hm), (1, .ref hx), (0, .ref b)]) (kk : ∀ (I : Nat → Nat → Int32) (J : Nat → Nat → Int64) (K : Nat → Int32) (L : List Nat) (C : Nat → GC) (Mm : Nat → Nat → Int64) (H : Heap) (locs : List Loc), Inv I K L C → va_P (gD g) vwCl (WW g hx α hm β I J K L C Mm) H → va_D (fun q => s.heap.size ≤ q) (WW g hx α hm β I J K L C Mm) → va_S (fun q => s.heap.size ≤ q) s.heap H locs → W p l e room_1 s m #[Value.ref b] below meth c H locs 146 3014 Q (F0 m 918 ls [])) : W p l e room_1 s m #[Value.ref b] below meth c H locs 146 3014 Q (F0 m 550 ls []) := by
  obtain ⟨cx, hX, hbl⟩ := lc
  have hx0 := cx.1
  have hb := cx.2.1
  have hA : ∀ q : Nat, s.heap.size ≤ q → (fun q : Nat => s.heap.size ≤ q) q := fun _ h => h
  have hbA : ¬ (fun q : Nat => s.heap.size ≤ q) b := Nat.not_le.mpr hbl
  have hin : ∀ k : Nat, k < 4 → vp_in (nI i + nI k) Lx := fun k hk => by rw [nI_add]; exact vp_in_nI (by omega) (by omega)
  obtain ⟨q, r, hq, hr, heq, hI2⟩ := pr I J K L C Mm (xs (nI i + (nI 1)).toNatClampNeg) hI
  refine lv_aload_n hx0 hb dL_law_550 rfl (lv_at hl 2 rfl) ?_
  refine lv_aload_n hx0 hb dL_law_551 rfl (lv_at hl 3 rfl) ?_
  refine lv_iload_n hx0 hb dL_law_552 rfl (lv_at hl 0 rfl) ?_
  refine lv_iconst (v := (nI 1)) hx0 hb dL_law_553 (by decide) ?_
  refine lv_iadd hx0 hb dL_law_554 ?_
  refine va_sld hx0 hb hX hbl hbA hS (hin 1 (by omega)) dL_law_555 ?_
  refine w_callV cx hP hD hS hA (c_X8_coverWalks g l hx (α 0) (α 4) (α 8) (α 9) (α 11) (α 14) (α 21) (α 23) (α 26) (α 1) (α 2) (α 3) (α 15) (α 16) (α 17) (α 18) (α 19) (α 20) (xs (nI i + (nI 1)).toNatClampNeg) (K 0) (K 1) (I 0) (I 1) (I 2) (J 0) (J 1) (J 4) (J 5) hq) [0, 1, 2, 3, 4, 15, 16, 17, 20, 21] (pre_C rfl) (by decide) rfl (WW g hx α hm β I (upf (upf (upf (upf J 0 q.2.1) 1 q.2.2.1) 4 q.2.2.2.1) 5 q.2.2.2.2) K L C Mm) (pre_S (k := 49) rfl (by decide) rfl) 0 8 rfl rfl yq_X8_coverWalks rfl m_469 m_470 m_471 m_42 m_472 ⟨Nat.le_of_ble_eq_true rfl, Nat.le_of_ble_eq_true rfl⟩ rfl rfl hl.1 (Nat.le_of_ble_eq_true rfl) dL_law_556 ⟨Nat.le_of_ble_eq_true rfl, Nat.le_of_ble_eq_true rfl⟩ rfl (fun H locs hP hD hS => ?_)
  refine lv_aload_n hx0 hb dL_law_559 rfl (lv_at hl 1 rfl) ?_
  refine lv_aload_n hx0 hb dL_law_560 rfl (lv_at hl 3 rfl) ?_
  refine lv_iload_n hx0 hb dL_law_561 rfl (lv_at hl 0 rfl) ?_
  refine lv_iconst (v := (nI 1)) hx0 hb dL_law_562 (by decide) ?_
  refine lv_iadd hx0 hb dL_law_563 ?_
  refine va_sld hx0 hb hX hbl hbA hS (hin 1 (by omega)) dL_law_564 ?_
  refine w_callV cx hP hD hS hA (c_X9_coverWalks g l hm (β 0) (β 1) (β 2) (β 3) (β 4) (β 5) (β 6) (β 7) (β 8) (β 9) (β 10) (β 11) (β 12) (β 13) (β 14) (β 15) (β 16) (β 17) (xs (nI i + (nI 1)).toNatClampNeg) (K 11) (K 12) (K 13) (K 14) (I 10) (J 9) (J 10) (J 11) (J 17) hr) [30, 31, 36, 37, 38, 44] (pre_C rfl) (by decide) rfl (WW g hx α hm β I (upf (upf (upf (upf (upf (upf (upf (upf J 0 q.2.1) 1 q.2.2.1) 4 q.2.2.2.1) 5 q.2.2.2.2) 9 r.2.2.1) 10 r.2.2.2.1) 11 r.2.2.2.2.1) 17 r.2.2.2.2.2) (upf K 14 r.2.1) L C Mm) (pre_S (k := 49) rfl (by decide) rfl) 30 9 rfl rfl yq_X9_coverWalks rfl m_850 m_851 m_852 m_51 m_853 ⟨Nat.le_of_ble_eq_true rfl, Nat.le_of_ble_eq_true rfl⟩ rfl rfl hl.1 (Nat.le_of_ble_eq_true rfl) dL_law_565 ⟨Nat.le_of_ble_eq_true rfl, Nat.le_of_ble_eq_true rfl⟩ rfl (fun H locs hP hD hS => ?_)
  refine W.lcmp hx0 hb dL_law_568 ?_
  refine lv_if_eq (tgt := 918) hx0 hb dL_law_569 (by decide) (fun _ => ?_) (fun c_ => absurd (cmp_eq heq) c_)
  exact kk I (upf (upf (upf (upf (upf (upf (upf (upf J 0 q.2.1) 1 q.2.2.1) 4 q.2.2.2.1) 5 q.2.2.2.2) 9 r.2.2.1) 10 r.2.2.2.1) 11 r.2.2.2.2.1) 17 r.2.2.2.2.2) (upf K 14 r.2.1) L C Mm H locs hI2 hP hD hS
set_option maxHeartbeats 4000000 in
set_option maxRecDepth 100000 in
theorem law_primes (pr : Pr_primes) {g : GG} {p : Program} {l : Launch} {e : Env} {s : State} {m : MethodId} {below : List Frame} {meth : Method} {c : Code} {b Lx : Nat} {xs : Nat → Int32} {Q : State → Prop} (lc : LC g p s m c b Lx xs) {hx hm : Nat} {α β : Nat → Nat} {i : Nat} (hL : Lx ≤ 2048) (hi : i + 4 ≤ Lx) {I : Nat → Nat → Int32} {J : Nat → Nat → Int64} {K : Nat → Int32} {L : List Nat} {C : Nat → GC} {Mm : Nat → Nat → Int64} (hI : Inv I K L C) {H : Heap} {locs : List Loc} {ls : Array Slot} (hP : va_P (gD g) vwCl (WW g hx α hm β I J K L C Mm) H) (hD : va_D (fun q => s.heap.size ≤ q) (WW g hx α hm β I J K L C Mm)) (hS : va_S (fun q => s.heap.size ≤ q) s.heap H locs) (hl : lv_has ls 4 [(3, .int (nI i)), (2, .ref hm), (1, .ref hx), (0, .ref b)]) (kk : ∀ (I : Nat → Nat → Int32) (J : Nat → Nat → Int64) (K : Nat → Int32) (L : List Nat) (C : Nat → GC) (Mm : Nat → Nat → Int64) (H : Heap) (locs : List Loc), Inv I K L C → va_P (gD g) vwCl (WW g hx α hm β I J K L C Mm) H → va_D (fun q => s.heap.size ≤ q) (WW g hx α hm β I J K L C Mm) → va_S (fun q => s.heap.size ≤ q) s.heap H locs → W p l e room_1 s m #[Value.ref b] below meth c H locs 146 3014 Q (F0 m 918 ls [])) : W p l e room_1 s m #[Value.ref b] below meth c H locs 146 3014 Q (F0 m 574 ls []) := by
  obtain ⟨cx, hX, hbl⟩ := lc
  have hx0 := cx.1
  have hb := cx.2.1
  have hA : ∀ q : Nat, s.heap.size ≤ q → (fun q : Nat => s.heap.size ≤ q) q := fun _ h => h
  have hbA : ¬ (fun q : Nat => s.heap.size ≤ q) b := Nat.not_le.mpr hbl
  have hin : ∀ k : Nat, k < 4 → vp_in (nI i + nI k) Lx := fun k hk => by rw [nI_add]; exact vp_in_nI (by omega) (by omega)
  obtain ⟨q, r, hq, hr, heq, hI2⟩ := pr I J K L C Mm (xs (nI i + (nI 1)).toNatClampNeg) hI
  refine lv_aload_n hx0 hb dL_law_574 rfl (lv_at hl 2 rfl) ?_
  refine lv_aload_n hx0 hb dL_law_575 rfl (lv_at hl 3 rfl) ?_
  refine lv_iload_n hx0 hb dL_law_576 rfl (lv_at hl 0 rfl) ?_
  refine lv_iconst (v := (nI 1)) hx0 hb dL_law_577 (by decide) ?_
  refine lv_iadd hx0 hb dL_law_578 ?_
  refine va_sld hx0 hb hX hbl hbA hS (hin 1 (by omega)) dL_law_579 ?_
  refine w_callV cx hP hD hS hA (c_X8_primes g l hx (α 0) (α 4) (α 8) (α 9) (α 11) (α 14) (α 21) (α 23) (α 26) (α 1) (α 2) (α 3) (α 15) (α 16) (α 17) (α 18) (α 19) (α 20) (xs (nI i + (nI 1)).toNatClampNeg) (K 0) (K 1) (I 0) (I 1) (I 2) (J 0) (J 2) (J 4) (J 5) hq) [0, 1, 2, 3, 4, 15, 16, 18, 20, 21] (pre_C rfl) (by decide) rfl (WW g hx α hm β I (upf (upf (upf (upf J 0 q.2.1) 2 q.2.2.1) 4 q.2.2.2.1) 5 q.2.2.2.2) K L C Mm) (pre_S (k := 49) rfl (by decide) rfl) 0 8 rfl rfl yq_X8_primes rfl m_473 m_474 m_475 m_42 m_476 ⟨Nat.le_of_ble_eq_true rfl, Nat.le_of_ble_eq_true rfl⟩ rfl rfl hl.1 (Nat.le_of_ble_eq_true rfl) dL_law_580 ⟨Nat.le_of_ble_eq_true rfl, Nat.le_of_ble_eq_true rfl⟩ rfl (fun H locs hP hD hS => ?_)
  refine lv_aload_n hx0 hb dL_law_583 rfl (lv_at hl 1 rfl) ?_
  refine lv_aload_n hx0 hb dL_law_584 rfl (lv_at hl 3 rfl) ?_
  refine lv_iload_n hx0 hb dL_law_585 rfl (lv_at hl 0 rfl) ?_
  refine lv_iconst (v := (nI 1)) hx0 hb dL_law_586 (by decide) ?_
  refine lv_iadd hx0 hb dL_law_587 ?_
  refine va_sld hx0 hb hX hbl hbA hS (hin 1 (by omega)) dL_law_588 ?_
  refine w_callV cx hP hD hS hA (c_X9_primes g l hm (β 0) (β 1) (β 2) (β 3) (β 4) (β 5) (β 6) (β 7) (β 8) (β 9) (β 10) (β 11) (β 12) (β 13) (β 14) (β 15) (β 16) (β 17) (xs (nI i + (nI 1)).toNatClampNeg) (K 11) (K 12) (K 13) (K 14) (I 10) (J 9) (J 10) (J 11) (J 17) (J 18) (J 19) (J 20) hr) [30, 31, 36, 37, 38, 44, 45, 46, 47] (pre_C rfl) (by decide) rfl (WW g hx α hm β I (upf (upf (upf (upf (upf (upf (upf (upf (upf (upf (upf J 0 q.2.1) 2 q.2.2.1) 4 q.2.2.2.1) 5 q.2.2.2.2) 9 r.2.2.1) 10 r.2.2.2.1) 11 r.2.2.2.2.1) 17 r.2.2.2.2.2.1) 18 r.2.2.2.2.2.2.1) 19 r.2.2.2.2.2.2.2.1) 20 r.2.2.2.2.2.2.2.2) (upf K 14 r.2.1) L C Mm) (pre_S (k := 49) rfl (by decide) rfl) 30 9 rfl rfl yq_X9_primes rfl m_854 m_855 m_856 m_51 m_857 ⟨Nat.le_of_ble_eq_true rfl, Nat.le_of_ble_eq_true rfl⟩ rfl rfl hl.1 (Nat.le_of_ble_eq_true rfl) dL_law_589 ⟨Nat.le_of_ble_eq_true rfl, Nat.le_of_ble_eq_true rfl⟩ rfl (fun H locs hP hD hS => ?_)
  refine W.lcmp hx0 hb dL_law_592 ?_
  refine lv_if_eq (tgt := 918) hx0 hb dL_law_593 (by decide) (fun _ => ?_) (fun c_ => absurd (cmp_eq heq) c_)
  exact kk I (upf (upf (upf (upf (upf (upf (upf (upf (upf (upf (upf J 0 q.2.1) 2 q.2.2.1) 4 q.2.2.2.1) 5 q.2.2.2.2) 9 r.2.2.1) 10 r.2.2.2.1) 11 r.2.2.2.2.1) 17 r.2.2.2.2.2.1) 18 r.2.2.2.2.2.2.1) 19 r.2.2.2.2.2.2.2.1) 20 r.2.2.2.2.2.2.2.2) (upf K 14 r.2.1) L C Mm H locs hI2 hP hD hS
set_option maxHeartbeats 4000000 in
set_option maxRecDepth 100000 in
theorem law_positivePrimes (pr : Pr_positivePrimes) {g : GG} {p : Program} {l : Launch} {e : Env} {s : State} {m : MethodId} {below : List Frame} {meth : Method} {c : Code} {b Lx : Nat} {xs : Nat → Int32} {Q : State → Prop} (lc : LC g p s m c b Lx xs) {hx hm : Nat} {α β : Nat → Nat} {i : Nat} (hL : Lx ≤ 2048) (hi : i + 4 ≤ Lx) {I : Nat → Nat → Int32} {J : Nat → Nat → Int64} {K : Nat → Int32} {L : List Nat} {C : Nat → GC} {Mm : Nat → Nat → Int64} (hI : Inv I K L C) {H : Heap} {locs : List Loc} {ls : Array Slot} (hP : va_P (gD g) vwCl (WW g hx α hm β I J K L C Mm) H) (hD : va_D (fun q => s.heap.size ≤ q) (WW g hx α hm β I J K L C Mm)) (hS : va_S (fun q => s.heap.size ≤ q) s.heap H locs) (hl : lv_has ls 4 [(3, .int (nI i)), (2, .ref hm), (1, .ref hx), (0, .ref b)]) (kk : ∀ (I : Nat → Nat → Int32) (J : Nat → Nat → Int64) (K : Nat → Int32) (L : List Nat) (C : Nat → GC) (Mm : Nat → Nat → Int64) (H : Heap) (locs : List Loc), Inv I K L C → va_P (gD g) vwCl (WW g hx α hm β I J K L C Mm) H → va_D (fun q => s.heap.size ≤ q) (WW g hx α hm β I J K L C Mm) → va_S (fun q => s.heap.size ≤ q) s.heap H locs → W p l e room_1 s m #[Value.ref b] below meth c H locs 146 3014 Q (F0 m 918 ls [])) : W p l e room_1 s m #[Value.ref b] below meth c H locs 146 3014 Q (F0 m 598 ls []) := by
  obtain ⟨cx, hX, hbl⟩ := lc
  have hx0 := cx.1
  have hb := cx.2.1
  have hA : ∀ q : Nat, s.heap.size ≤ q → (fun q : Nat => s.heap.size ≤ q) q := fun _ h => h
  have hbA : ¬ (fun q : Nat => s.heap.size ≤ q) b := Nat.not_le.mpr hbl
  have hin : ∀ k : Nat, k < 4 → vp_in (nI i + nI k) Lx := fun k hk => by rw [nI_add]; exact vp_in_nI (by omega) (by omega)
  obtain ⟨q, r, hq, hr, heq, hI2⟩ := pr I J K L C Mm (xs (nI i + (nI 1)).toNatClampNeg) hI
  refine lv_aload_n hx0 hb dL_law_598 rfl (lv_at hl 2 rfl) ?_
  refine lv_aload_n hx0 hb dL_law_599 rfl (lv_at hl 3 rfl) ?_
  refine lv_iload_n hx0 hb dL_law_600 rfl (lv_at hl 0 rfl) ?_
  refine lv_iconst (v := (nI 1)) hx0 hb dL_law_601 (by decide) ?_
  refine lv_iadd hx0 hb dL_law_602 ?_
  refine va_sld hx0 hb hX hbl hbA hS (hin 1 (by omega)) dL_law_603 ?_
  refine w_callV cx hP hD hS hA (c_X8_positivePrimes g l hx (α 0) (α 4) (α 8) (α 9) (α 11) (α 14) (α 21) (α 23) (α 26) (α 1) (α 2) (α 3) (α 15) (α 16) (α 17) (α 18) (α 19) (α 20) (xs (nI i + (nI 1)).toNatClampNeg) (K 0) (K 1) (I 0) (I 1) (I 2) (J 0) (J 1) (J 2) (J 3) (J 4) (J 5) hq) [0, 1, 2, 3, 4, 15, 16, 17, 18, 19, 20, 21] (pre_C rfl) (by decide) rfl (WW g hx α hm β I (upf (upf (upf (upf (upf (upf J 0 q.2.1) 1 q.2.2.1) 2 q.2.2.2.1) 3 q.2.2.2.2.1) 4 q.2.2.2.2.2.1) 5 q.2.2.2.2.2.2) K L C Mm) (pre_S (k := 49) rfl (by decide) rfl) 0 8 rfl rfl yq_X8_positivePrimes rfl m_482 m_483 m_484 m_42 m_485 ⟨Nat.le_of_ble_eq_true rfl, Nat.le_of_ble_eq_true rfl⟩ rfl rfl hl.1 (Nat.le_of_ble_eq_true rfl) dL_law_604 ⟨Nat.le_of_ble_eq_true rfl, Nat.le_of_ble_eq_true rfl⟩ rfl (fun H locs hP hD hS => ?_)
  refine lv_aload_n hx0 hb dL_law_607 rfl (lv_at hl 1 rfl) ?_
  refine lv_aload_n hx0 hb dL_law_608 rfl (lv_at hl 3 rfl) ?_
  refine lv_iload_n hx0 hb dL_law_609 rfl (lv_at hl 0 rfl) ?_
  refine lv_iconst (v := (nI 1)) hx0 hb dL_law_610 (by decide) ?_
  refine lv_iadd hx0 hb dL_law_611 ?_
  refine va_sld hx0 hb hX hbl hbA hS (hin 1 (by omega)) dL_law_612 ?_
  refine w_callV cx hP hD hS hA (c_X9_positivePrimes g l hm (β 0) (β 1) (β 2) (β 3) (β 4) (β 5) (β 6) (β 7) (β 8) (β 9) (β 10) (β 11) (β 12) (β 13) (β 14) (β 15) (β 16) (β 17) (xs (nI i + (nI 1)).toNatClampNeg) (K 11) (K 12) (K 13) (K 14) (I 10) (J 9) (J 10) (J 11) (J 17) (J 18) (J 19) (J 20) hr) [30, 31, 36, 37, 38, 44, 45, 46, 47] (pre_C rfl) (by decide) rfl (WW g hx α hm β I (upf (upf (upf (upf (upf (upf (upf (upf (upf (upf (upf (upf (upf J 0 q.2.1) 1 q.2.2.1) 2 q.2.2.2.1) 3 q.2.2.2.2.1) 4 q.2.2.2.2.2.1) 5 q.2.2.2.2.2.2) 9 r.2.2.1) 10 r.2.2.2.1) 11 r.2.2.2.2.1) 17 r.2.2.2.2.2.1) 18 r.2.2.2.2.2.2.1) 19 r.2.2.2.2.2.2.2.1) 20 r.2.2.2.2.2.2.2.2) (upf K 14 r.2.1) L C Mm) (pre_S (k := 49) rfl (by decide) rfl) 30 9 rfl rfl yq_X9_positivePrimes rfl m_863 m_864 m_865 m_51 m_866 ⟨Nat.le_of_ble_eq_true rfl, Nat.le_of_ble_eq_true rfl⟩ rfl rfl hl.1 (Nat.le_of_ble_eq_true rfl) dL_law_613 ⟨Nat.le_of_ble_eq_true rfl, Nat.le_of_ble_eq_true rfl⟩ rfl (fun H locs hP hD hS => ?_)
  refine W.lcmp hx0 hb dL_law_616 ?_
  refine lv_if_eq (tgt := 918) hx0 hb dL_law_617 (by decide) (fun _ => ?_) (fun c_ => absurd (cmp_eq heq) c_)
  exact kk I (upf (upf (upf (upf (upf (upf (upf (upf (upf (upf (upf (upf (upf J 0 q.2.1) 1 q.2.2.1) 2 q.2.2.2.1) 3 q.2.2.2.2.1) 4 q.2.2.2.2.2.1) 5 q.2.2.2.2.2.2) 9 r.2.2.1) 10 r.2.2.2.1) 11 r.2.2.2.2.1) 17 r.2.2.2.2.2.1) 18 r.2.2.2.2.2.2.1) 19 r.2.2.2.2.2.2.2.1) 20 r.2.2.2.2.2.2.2.2) (upf K 14 r.2.1) L C Mm H locs hI2 hP hD hS
set_option maxHeartbeats 4000000 in
set_option maxRecDepth 100000 in
theorem law_girth (pr : Pr_girth) {g : GG} {p : Program} {l : Launch} {e : Env} {s : State} {m : MethodId} {below : List Frame} {meth : Method} {c : Code} {b Lx : Nat} {xs : Nat → Int32} {Q : State → Prop} (lc : LC g p s m c b Lx xs) {hx hm : Nat} {α β : Nat → Nat} {i : Nat} (hL : Lx ≤ 2048) (hi : i + 4 ≤ Lx) {I : Nat → Nat → Int32} {J : Nat → Nat → Int64} {K : Nat → Int32} {L : List Nat} {C : Nat → GC} {Mm : Nat → Nat → Int64} (hI : Inv I K L C) {H : Heap} {locs : List Loc} {ls : Array Slot} (hP : va_P (gD g) vwCl (WW g hx α hm β I J K L C Mm) H) (hD : va_D (fun q => s.heap.size ≤ q) (WW g hx α hm β I J K L C Mm)) (hS : va_S (fun q => s.heap.size ≤ q) s.heap H locs) (hl : lv_has ls 4 [(3, .int (nI i)), (2, .ref hm), (1, .ref hx), (0, .ref b)]) (kk : ∀ (I : Nat → Nat → Int32) (J : Nat → Nat → Int64) (K : Nat → Int32) (L : List Nat) (C : Nat → GC) (Mm : Nat → Nat → Int64) (H : Heap) (locs : List Loc), Inv I K L C → va_P (gD g) vwCl (WW g hx α hm β I J K L C Mm) H → va_D (fun q => s.heap.size ≤ q) (WW g hx α hm β I J K L C Mm) → va_S (fun q => s.heap.size ≤ q) s.heap H locs → W p l e room_1 s m #[Value.ref b] below meth c H locs 146 3014 Q (F0 m 918 ls [])) : W p l e room_1 s m #[Value.ref b] below meth c H locs 146 3014 Q (F0 m 622 ls []) := by
  obtain ⟨cx, hX, hbl⟩ := lc
  have hx0 := cx.1
  have hb := cx.2.1
  have hA : ∀ q : Nat, s.heap.size ≤ q → (fun q : Nat => s.heap.size ≤ q) q := fun _ h => h
  have hbA : ¬ (fun q : Nat => s.heap.size ≤ q) b := Nat.not_le.mpr hbl
  have hin : ∀ k : Nat, k < 4 → vp_in (nI i + nI k) Lx := fun k hk => by rw [nI_add]; exact vp_in_nI (by omega) (by omega)
  obtain ⟨q, r, hq, hr, heq, hI2⟩ := pr I J K L C Mm  hI
  refine lv_aload_n hx0 hb dL_law_622 rfl (lv_at hl 2 rfl) ?_
  refine w_callV cx hP hD hS hA (c_X8_girth g l hx (α 0) (α 4) (α 8) (α 9) (α 11) (α 14) (α 21) (α 23) (α 26) (α 1) (α 2) (α 3) (α 15) (α 16) (α 17) (α 18) (α 19) (α 20) (K 0) (K 1) (I 0) (I 1) (I 2) (J 0) (J 2) (J 4) (J 5) hq) [0, 1, 2, 3, 4, 15, 16, 18, 20, 21] (pre_C rfl) (by decide) rfl (WW g hx α hm β I (upf (upf (upf (upf J 0 q.2.1) 2 q.2.2.1) 4 q.2.2.2.1) 5 q.2.2.2.2) K L C Mm) (pre_S (k := 49) rfl (by decide) rfl) 0 8 rfl rfl yq_X8_girth rfl m_493 m_494 m_495 m_42 m_496 ⟨Nat.le_of_ble_eq_true rfl, Nat.le_of_ble_eq_true rfl⟩ rfl rfl hl.1 (Nat.le_of_ble_eq_true rfl) dL_law_623 ⟨Nat.le_of_ble_eq_true rfl, Nat.le_of_ble_eq_true rfl⟩ rfl (fun H locs hP hD hS => ?_)
  refine lv_aload_n hx0 hb dL_law_626 rfl (lv_at hl 1 rfl) ?_
  refine w_callV cx hP hD hS hA (c_X9_girth g l hm (β 0) (β 1) (β 2) (β 3) (β 4) (β 5) (β 6) (β 7) (β 8) (β 9) (β 10) (β 11) (β 12) (β 13) (β 14) (β 15) (β 16) (β 17) (K 11) (K 12) (K 13) (K 14) (I 10) (J 9) (J 10) (J 11) (J 17) (J 18) (J 19) (J 20) hr) [30, 31, 36, 37, 38, 44, 45, 46, 47] (pre_C rfl) (by decide) rfl (WW g hx α hm β I (upf (upf (upf (upf (upf (upf (upf (upf (upf (upf (upf J 0 q.2.1) 2 q.2.2.1) 4 q.2.2.2.1) 5 q.2.2.2.2) 9 r.2.2.1) 10 r.2.2.2.1) 11 r.2.2.2.2.1) 17 r.2.2.2.2.2.1) 18 r.2.2.2.2.2.2.1) 19 r.2.2.2.2.2.2.2.1) 20 r.2.2.2.2.2.2.2.2) (upf K 14 r.2.1) L C Mm) (pre_S (k := 49) rfl (by decide) rfl) 30 9 rfl rfl yq_X9_girth rfl m_867 m_868 m_869 m_51 m_870 ⟨Nat.le_of_ble_eq_true rfl, Nat.le_of_ble_eq_true rfl⟩ rfl rfl hl.1 (Nat.le_of_ble_eq_true rfl) dL_law_627 ⟨Nat.le_of_ble_eq_true rfl, Nat.le_of_ble_eq_true rfl⟩ rfl (fun H locs hP hD hS => ?_)
  refine lv_icmp_eq (tgt := 918) hx0 hb dL_law_630 (by decide) (fun _ => ?_) (fun c_ => absurd heq c_)
  exact kk I (upf (upf (upf (upf (upf (upf (upf (upf (upf (upf (upf J 0 q.2.1) 2 q.2.2.1) 4 q.2.2.2.1) 5 q.2.2.2.2) 9 r.2.2.1) 10 r.2.2.2.1) 11 r.2.2.2.2.1) 17 r.2.2.2.2.2.1) 18 r.2.2.2.2.2.2.1) 19 r.2.2.2.2.2.2.2.1) 20 r.2.2.2.2.2.2.2.2) (upf K 14 r.2.1) L C Mm H locs hI2 hP hD hS
set_option maxHeartbeats 4000000 in
set_option maxRecDepth 100000 in
theorem law_period (pr : Pr_period) {g : GG} {p : Program} {l : Launch} {e : Env} {s : State} {m : MethodId} {below : List Frame} {meth : Method} {c : Code} {b Lx : Nat} {xs : Nat → Int32} {Q : State → Prop} (lc : LC g p s m c b Lx xs) {hx hm : Nat} {α β : Nat → Nat} {i : Nat} (hL : Lx ≤ 2048) (hi : i + 4 ≤ Lx) {I : Nat → Nat → Int32} {J : Nat → Nat → Int64} {K : Nat → Int32} {L : List Nat} {C : Nat → GC} {Mm : Nat → Nat → Int64} (hI : Inv I K L C) {H : Heap} {locs : List Loc} {ls : Array Slot} (hP : va_P (gD g) vwCl (WW g hx α hm β I J K L C Mm) H) (hD : va_D (fun q => s.heap.size ≤ q) (WW g hx α hm β I J K L C Mm)) (hS : va_S (fun q => s.heap.size ≤ q) s.heap H locs) (hl : lv_has ls 4 [(3, .int (nI i)), (2, .ref hm), (1, .ref hx), (0, .ref b)]) (kk : ∀ (I : Nat → Nat → Int32) (J : Nat → Nat → Int64) (K : Nat → Int32) (L : List Nat) (C : Nat → GC) (Mm : Nat → Nat → Int64) (H : Heap) (locs : List Loc), Inv I K L C → va_P (gD g) vwCl (WW g hx α hm β I J K L C Mm) H → va_D (fun q => s.heap.size ≤ q) (WW g hx α hm β I J K L C Mm) → va_S (fun q => s.heap.size ≤ q) s.heap H locs → W p l e room_1 s m #[Value.ref b] below meth c H locs 146 3014 Q (F0 m 918 ls [])) : W p l e room_1 s m #[Value.ref b] below meth c H locs 146 3014 Q (F0 m 635 ls []) := by
  obtain ⟨cx, hX, hbl⟩ := lc
  have hx0 := cx.1
  have hb := cx.2.1
  have hA : ∀ q : Nat, s.heap.size ≤ q → (fun q : Nat => s.heap.size ≤ q) q := fun _ h => h
  have hbA : ¬ (fun q : Nat => s.heap.size ≤ q) b := Nat.not_le.mpr hbl
  have hin : ∀ k : Nat, k < 4 → vp_in (nI i + nI k) Lx := fun k hk => by rw [nI_add]; exact vp_in_nI (by omega) (by omega)
  obtain ⟨q, r, hq, hr, heq, hI2⟩ := pr I J K L C Mm  hI
  refine lv_aload_n hx0 hb dL_law_635 rfl (lv_at hl 2 rfl) ?_
  refine w_callV cx hP hD hS hA (c_X8_period g l hx (α 0) (α 4) (α 8) (α 9) (α 11) (α 14) (α 21) (α 23) (α 26) (α 1) (α 2) (α 3) (α 15) (α 16) (α 17) (α 18) (α 19) (α 20) (K 0) (K 1) (I 0) (I 1) (I 2) (J 0) (J 2) (J 4) (J 5) hq) [0, 1, 2, 3, 4, 15, 16, 18, 20, 21] (pre_C rfl) (by decide) rfl (WW g hx α hm β I (upf (upf (upf (upf J 0 q.2.1) 2 q.2.2.1) 4 q.2.2.2.1) 5 q.2.2.2.2) K L C Mm) (pre_S (k := 49) rfl (by decide) rfl) 0 8 rfl rfl yq_X8_period rfl m_497 m_498 m_499 m_42 m_500 ⟨Nat.le_of_ble_eq_true rfl, Nat.le_of_ble_eq_true rfl⟩ rfl rfl hl.1 (Nat.le_of_ble_eq_true rfl) dL_law_636 ⟨Nat.le_of_ble_eq_true rfl, Nat.le_of_ble_eq_true rfl⟩ rfl (fun H locs hP hD hS => ?_)
  refine lv_aload_n hx0 hb dL_law_639 rfl (lv_at hl 1 rfl) ?_
  refine w_callV cx hP hD hS hA (c_X9_period g l hm (β 0) (β 1) (β 2) (β 3) (β 4) (β 5) (β 6) (β 7) (β 8) (β 9) (β 10) (β 11) (β 12) (β 13) (β 14) (β 15) (β 16) (β 17) (K 11) (K 12) (K 13) (K 14) (I 10) (J 9) (J 10) (J 11) (J 17) (J 18) (J 19) (J 20) hr) [30, 31, 36, 37, 38, 44, 45, 46, 47] (pre_C rfl) (by decide) rfl (WW g hx α hm β I (upf (upf (upf (upf (upf (upf (upf (upf (upf (upf (upf J 0 q.2.1) 2 q.2.2.1) 4 q.2.2.2.1) 5 q.2.2.2.2) 9 r.2.2.1) 10 r.2.2.2.1) 11 r.2.2.2.2.1) 17 r.2.2.2.2.2.1) 18 r.2.2.2.2.2.2.1) 19 r.2.2.2.2.2.2.2.1) 20 r.2.2.2.2.2.2.2.2) (upf K 14 r.2.1) L C Mm) (pre_S (k := 49) rfl (by decide) rfl) 30 9 rfl rfl yq_X9_period rfl m_871 m_872 m_873 m_51 m_874 ⟨Nat.le_of_ble_eq_true rfl, Nat.le_of_ble_eq_true rfl⟩ rfl rfl hl.1 (Nat.le_of_ble_eq_true rfl) dL_law_640 ⟨Nat.le_of_ble_eq_true rfl, Nat.le_of_ble_eq_true rfl⟩ rfl (fun H locs hP hD hS => ?_)
  refine lv_icmp_eq (tgt := 918) hx0 hb dL_law_643 (by decide) (fun _ => ?_) (fun c_ => absurd heq c_)
  exact kk I (upf (upf (upf (upf (upf (upf (upf (upf (upf (upf (upf J 0 q.2.1) 2 q.2.2.1) 4 q.2.2.2.1) 5 q.2.2.2.2) 9 r.2.2.1) 10 r.2.2.2.1) 11 r.2.2.2.2.1) 17 r.2.2.2.2.2.1) 18 r.2.2.2.2.2.2.1) 19 r.2.2.2.2.2.2.2.1) 20 r.2.2.2.2.2.2.2.2) (upf K 14 r.2.1) L C Mm H locs hI2 hP hD hS
set_option maxHeartbeats 4000000 in
set_option maxRecDepth 100000 in
theorem law_primeEdge (pr : Pr_primeEdge) {g : GG} {p : Program} {l : Launch} {e : Env} {s : State} {m : MethodId} {below : List Frame} {meth : Method} {c : Code} {b Lx : Nat} {xs : Nat → Int32} {Q : State → Prop} (lc : LC g p s m c b Lx xs) {hx hm : Nat} {α β : Nat → Nat} {i : Nat} (hL : Lx ≤ 2048) (hi : i + 4 ≤ Lx) {I : Nat → Nat → Int32} {J : Nat → Nat → Int64} {K : Nat → Int32} {L : List Nat} {C : Nat → GC} {Mm : Nat → Nat → Int64} (hI : Inv I K L C) {H : Heap} {locs : List Loc} {ls : Array Slot} (hP : va_P (gD g) vwCl (WW g hx α hm β I J K L C Mm) H) (hD : va_D (fun q => s.heap.size ≤ q) (WW g hx α hm β I J K L C Mm)) (hS : va_S (fun q => s.heap.size ≤ q) s.heap H locs) (hl : lv_has ls 4 [(3, .int (nI i)), (2, .ref hm), (1, .ref hx), (0, .ref b)]) (kk : ∀ (I : Nat → Nat → Int32) (J : Nat → Nat → Int64) (K : Nat → Int32) (L : List Nat) (C : Nat → GC) (Mm : Nat → Nat → Int64) (H : Heap) (locs : List Loc), Inv I K L C → va_P (gD g) vwCl (WW g hx α hm β I J K L C Mm) H → va_D (fun q => s.heap.size ≤ q) (WW g hx α hm β I J K L C Mm) → va_S (fun q => s.heap.size ≤ q) s.heap H locs → W p l e room_1 s m #[Value.ref b] below meth c H locs 146 3014 Q (F0 m 918 ls [])) : W p l e room_1 s m #[Value.ref b] below meth c H locs 146 3014 Q (F0 m 648 ls []) := by
  obtain ⟨cx, hX, hbl⟩ := lc
  have hx0 := cx.1
  have hb := cx.2.1
  have hA : ∀ q : Nat, s.heap.size ≤ q → (fun q : Nat => s.heap.size ≤ q) q := fun _ h => h
  have hbA : ¬ (fun q : Nat => s.heap.size ≤ q) b := Nat.not_le.mpr hbl
  have hin : ∀ k : Nat, k < 4 → vp_in (nI i + nI k) Lx := fun k hk => by rw [nI_add]; exact vp_in_nI (by omega) (by omega)
  obtain ⟨q, r, hq, hr, heq, hI2⟩ := pr I J K L C Mm (xs (nI i + (nI 1)).toNatClampNeg) (xs (nI i + (nI 2)).toNatClampNeg) (xs (nI i + (nI 3)).toNatClampNeg) hI
  refine lv_aload_n hx0 hb dL_law_648 rfl (lv_at hl 2 rfl) ?_
  refine lv_aload_n hx0 hb dL_law_649 rfl (lv_at hl 3 rfl) ?_
  refine lv_iload_n hx0 hb dL_law_650 rfl (lv_at hl 0 rfl) ?_
  refine lv_iconst (v := (nI 1)) hx0 hb dL_law_651 (by decide) ?_
  refine lv_iadd hx0 hb dL_law_652 ?_
  refine va_sld hx0 hb hX hbl hbA hS (hin 1 (by omega)) dL_law_653 ?_
  refine lv_aload_n hx0 hb dL_law_654 rfl (lv_at hl 3 rfl) ?_
  refine lv_iload_n hx0 hb dL_law_655 rfl (lv_at hl 0 rfl) ?_
  refine lv_iconst (v := (nI 2)) hx0 hb dL_law_656 (by decide) ?_
  refine lv_iadd hx0 hb dL_law_657 ?_
  refine va_sld hx0 hb hX hbl hbA hS (hin 2 (by omega)) dL_law_658 ?_
  refine lv_aload_n hx0 hb dL_law_659 rfl (lv_at hl 3 rfl) ?_
  refine lv_iload_n hx0 hb dL_law_660 rfl (lv_at hl 0 rfl) ?_
  refine lv_iconst (v := (nI 3)) hx0 hb dL_law_661 (by decide) ?_
  refine lv_iadd hx0 hb dL_law_662 ?_
  refine va_sld hx0 hb hX hbl hbA hS (hin 3 (by omega)) dL_law_663 ?_
  refine w_callV cx hP hD hS hA (c_X8_primeEdge g l hx (α 0) (α 4) (α 8) (α 9) (α 11) (α 14) (α 21) (α 23) (α 26) (α 1) (α 2) (α 3) (α 22) (xs (nI i + (nI 1)).toNatClampNeg) (xs (nI i + (nI 2)).toNatClampNeg) (xs (nI i + (nI 3)).toNatClampNeg) (K 0) (K 1) (I 0) (I 1) (I 2) (K 10) (I 9) hq) [0, 1, 2, 3, 4, 22, 23] (pre_C rfl) (by decide) rfl (WW g hx α hm β (upf I 9 q.2.2) J (upf K 10 q.2.1) L C Mm) (pre_S (k := 49) rfl (by decide) rfl) 0 8 rfl rfl yq_X8_primeEdge rfl m_504 m_505 m_506 m_42 m_507 ⟨Nat.le_of_ble_eq_true rfl, Nat.le_of_ble_eq_true rfl⟩ rfl rfl hl.1 (Nat.le_of_ble_eq_true rfl) dL_law_664 ⟨Nat.le_of_ble_eq_true rfl, Nat.le_of_ble_eq_true rfl⟩ rfl (fun H locs hP hD hS => ?_)
  refine lv_aload_n hx0 hb dL_law_667 rfl (lv_at hl 1 rfl) ?_
  refine lv_aload_n hx0 hb dL_law_668 rfl (lv_at hl 3 rfl) ?_
  refine lv_iload_n hx0 hb dL_law_669 rfl (lv_at hl 0 rfl) ?_
  refine lv_iconst (v := (nI 1)) hx0 hb dL_law_670 (by decide) ?_
  refine lv_iadd hx0 hb dL_law_671 ?_
  refine va_sld hx0 hb hX hbl hbA hS (hin 1 (by omega)) dL_law_672 ?_
  refine lv_aload_n hx0 hb dL_law_673 rfl (lv_at hl 3 rfl) ?_
  refine lv_iload_n hx0 hb dL_law_674 rfl (lv_at hl 0 rfl) ?_
  refine lv_iconst (v := (nI 2)) hx0 hb dL_law_675 (by decide) ?_
  refine lv_iadd hx0 hb dL_law_676 ?_
  refine va_sld hx0 hb hX hbl hbA hS (hin 2 (by omega)) dL_law_677 ?_
  refine lv_aload_n hx0 hb dL_law_678 rfl (lv_at hl 3 rfl) ?_
  refine lv_iload_n hx0 hb dL_law_679 rfl (lv_at hl 0 rfl) ?_
  refine lv_iconst (v := (nI 3)) hx0 hb dL_law_680 (by decide) ?_
  refine lv_iadd hx0 hb dL_law_681 ?_
  refine va_sld hx0 hb hX hbl hbA hS (hin 3 (by omega)) dL_law_682 ?_
  refine w_callV cx hP hD hS hA (c_X9_primeEdge g l hm (β 0) (β 1) (β 2) (β 3) (β 4) (β 5) (β 6) (β 7) (β 8) (β 9) (β 10) (β 11) (β 12) (β 13) (β 14) (β 15) (β 16) (β 17) (xs (nI i + (nI 1)).toNatClampNeg) (xs (nI i + (nI 2)).toNatClampNeg) (xs (nI i + (nI 3)).toNatClampNeg) (K 11) (K 12) (K 13) (K 14) (I 10) (I 15) hr) [30, 31, 48] (pre_C rfl) (by decide) rfl (WW g hx α hm β (upf (upf I 9 q.2.2) 15 r.2) J (upf K 10 q.2.1) L C Mm) (pre_S (k := 49) rfl (by decide) rfl) 30 9 rfl rfl yq_X9_primeEdge rfl m_875 m_876 m_877 m_51 m_878 ⟨Nat.le_of_ble_eq_true rfl, Nat.le_of_ble_eq_true rfl⟩ rfl rfl hl.1 (Nat.le_of_ble_eq_true rfl) dL_law_683 ⟨Nat.le_of_ble_eq_true rfl, Nat.le_of_ble_eq_true rfl⟩ rfl (fun H locs hP hD hS => ?_)
  refine lv_icmp_eq (tgt := 918) hx0 hb dL_law_686 (by decide) (fun _ => ?_) (fun c_ => absurd heq c_)
  exact kk (upf (upf I 9 q.2.2) 15 r.2) J (upf K 10 q.2.1) L C Mm H locs hI2 hP hD hS
set_option maxHeartbeats 4000000 in
set_option maxRecDepth 100000 in
theorem law_primeSign (pr : Pr_primeSign) {g : GG} {p : Program} {l : Launch} {e : Env} {s : State} {m : MethodId} {below : List Frame} {meth : Method} {c : Code} {b Lx : Nat} {xs : Nat → Int32} {Q : State → Prop} (lc : LC g p s m c b Lx xs) {hx hm : Nat} {α β : Nat → Nat} {i : Nat} (hL : Lx ≤ 2048) (hi : i + 4 ≤ Lx) {I : Nat → Nat → Int32} {J : Nat → Nat → Int64} {K : Nat → Int32} {L : List Nat} {C : Nat → GC} {Mm : Nat → Nat → Int64} (hI : Inv I K L C) {H : Heap} {locs : List Loc} {ls : Array Slot} (hP : va_P (gD g) vwCl (WW g hx α hm β I J K L C Mm) H) (hD : va_D (fun q => s.heap.size ≤ q) (WW g hx α hm β I J K L C Mm)) (hS : va_S (fun q => s.heap.size ≤ q) s.heap H locs) (hl : lv_has ls 4 [(3, .int (nI i)), (2, .ref hm), (1, .ref hx), (0, .ref b)]) (kk : ∀ (I : Nat → Nat → Int32) (J : Nat → Nat → Int64) (K : Nat → Int32) (L : List Nat) (C : Nat → GC) (Mm : Nat → Nat → Int64) (H : Heap) (locs : List Loc), Inv I K L C → va_P (gD g) vwCl (WW g hx α hm β I J K L C Mm) H → va_D (fun q => s.heap.size ≤ q) (WW g hx α hm β I J K L C Mm) → va_S (fun q => s.heap.size ≤ q) s.heap H locs → W p l e room_1 s m #[Value.ref b] below meth c H locs 146 3014 Q (F0 m 918 ls [])) : W p l e room_1 s m #[Value.ref b] below meth c H locs 146 3014 Q (F0 m 691 ls []) := by
  obtain ⟨cx, hX, hbl⟩ := lc
  have hx0 := cx.1
  have hb := cx.2.1
  have hA : ∀ q : Nat, s.heap.size ≤ q → (fun q : Nat => s.heap.size ≤ q) q := fun _ h => h
  have hbA : ¬ (fun q : Nat => s.heap.size ≤ q) b := Nat.not_le.mpr hbl
  have hin : ∀ k : Nat, k < 4 → vp_in (nI i + nI k) Lx := fun k hk => by rw [nI_add]; exact vp_in_nI (by omega) (by omega)
  obtain ⟨q, r, hq, hr, heq, hI2⟩ := pr I J K L C Mm (xs (nI i + (nI 1)).toNatClampNeg) (xs (nI i + (nI 2)).toNatClampNeg) hI
  refine lv_aload_n hx0 hb dL_law_691 rfl (lv_at hl 2 rfl) ?_
  refine lv_aload_n hx0 hb dL_law_692 rfl (lv_at hl 3 rfl) ?_
  refine lv_iload_n hx0 hb dL_law_693 rfl (lv_at hl 0 rfl) ?_
  refine lv_iconst (v := (nI 1)) hx0 hb dL_law_694 (by decide) ?_
  refine lv_iadd hx0 hb dL_law_695 ?_
  refine va_sld hx0 hb hX hbl hbA hS (hin 1 (by omega)) dL_law_696 ?_
  refine lv_aload_n hx0 hb dL_law_697 rfl (lv_at hl 3 rfl) ?_
  refine lv_iload_n hx0 hb dL_law_698 rfl (lv_at hl 0 rfl) ?_
  refine lv_iconst (v := (nI 2)) hx0 hb dL_law_699 (by decide) ?_
  refine lv_iadd hx0 hb dL_law_700 ?_
  refine va_sld hx0 hb hX hbl hbA hS (hin 2 (by omega)) dL_law_701 ?_
  refine w_callV cx hP hD hS hA (c_X8_primeSign g l hx (α 0) (α 4) (α 8) (α 9) (α 11) (α 14) (α 21) (α 23) (α 26) (α 1) (α 2) (α 3) (α 22) (xs (nI i + (nI 1)).toNatClampNeg) (xs (nI i + (nI 2)).toNatClampNeg) (K 0) (K 1) (I 0) (I 1) (I 2) (K 10) (I 9) hq) [0, 1, 2, 3, 4, 22, 23] (pre_C rfl) (by decide) rfl (WW g hx α hm β (upf I 9 q.2.2) J (upf K 10 q.2.1) L C Mm) (pre_S (k := 49) rfl (by decide) rfl) 0 8 rfl rfl yq_X8_primeSign rfl m_524 m_525 m_526 m_42 m_527 ⟨Nat.le_of_ble_eq_true rfl, Nat.le_of_ble_eq_true rfl⟩ rfl rfl hl.1 (Nat.le_of_ble_eq_true rfl) dL_law_702 ⟨Nat.le_of_ble_eq_true rfl, Nat.le_of_ble_eq_true rfl⟩ rfl (fun H locs hP hD hS => ?_)
  refine lv_aload_n hx0 hb dL_law_705 rfl (lv_at hl 1 rfl) ?_
  refine lv_aload_n hx0 hb dL_law_706 rfl (lv_at hl 3 rfl) ?_
  refine lv_iload_n hx0 hb dL_law_707 rfl (lv_at hl 0 rfl) ?_
  refine lv_iconst (v := (nI 1)) hx0 hb dL_law_708 (by decide) ?_
  refine lv_iadd hx0 hb dL_law_709 ?_
  refine va_sld hx0 hb hX hbl hbA hS (hin 1 (by omega)) dL_law_710 ?_
  refine lv_aload_n hx0 hb dL_law_711 rfl (lv_at hl 3 rfl) ?_
  refine lv_iload_n hx0 hb dL_law_712 rfl (lv_at hl 0 rfl) ?_
  refine lv_iconst (v := (nI 2)) hx0 hb dL_law_713 (by decide) ?_
  refine lv_iadd hx0 hb dL_law_714 ?_
  refine va_sld hx0 hb hX hbl hbA hS (hin 2 (by omega)) dL_law_715 ?_
  refine w_callV cx hP hD hS hA (c_X9_primeSign g l hm (β 0) (β 1) (β 2) (β 3) (β 4) (β 5) (β 6) (β 7) (β 8) (β 9) (β 10) (β 11) (β 12) (β 13) (β 14) (β 15) (β 16) (β 17) (xs (nI i + (nI 1)).toNatClampNeg) (xs (nI i + (nI 2)).toNatClampNeg) (K 11) (K 12) (K 13) (K 14) (I 10) (I 15) hr) [30, 31, 48] (pre_C rfl) (by decide) rfl (WW g hx α hm β (upf (upf I 9 q.2.2) 15 r.2) J (upf K 10 q.2.1) L C Mm) (pre_S (k := 49) rfl (by decide) rfl) 30 9 rfl rfl yq_X9_primeSign rfl m_887 m_888 m_889 m_51 m_890 ⟨Nat.le_of_ble_eq_true rfl, Nat.le_of_ble_eq_true rfl⟩ rfl rfl hl.1 (Nat.le_of_ble_eq_true rfl) dL_law_716 ⟨Nat.le_of_ble_eq_true rfl, Nat.le_of_ble_eq_true rfl⟩ rfl (fun H locs hP hD hS => ?_)
  refine lv_icmp_eq (tgt := 918) hx0 hb dL_law_719 (by decide) (fun _ => ?_) (fun c_ => absurd heq c_)
  exact kk (upf (upf I 9 q.2.2) 15 r.2) J (upf K 10 q.2.1) L C Mm H locs hI2 hP hD hS
set_option maxHeartbeats 4000000 in
set_option maxRecDepth 100000 in
theorem law_edgeCoefficient (pr : Pr_edgeCoefficient) {g : GG} {p : Program} {l : Launch} {e : Env} {s : State} {m : MethodId} {below : List Frame} {meth : Method} {c : Code} {b Lx : Nat} {xs : Nat → Int32} {Q : State → Prop} (lc : LC g p s m c b Lx xs) {hx hm : Nat} {α β : Nat → Nat} {i : Nat} (hL : Lx ≤ 2048) (hi : i + 4 ≤ Lx) {I : Nat → Nat → Int32} {J : Nat → Nat → Int64} {K : Nat → Int32} {L : List Nat} {C : Nat → GC} {Mm : Nat → Nat → Int64} (hI : Inv I K L C) {H : Heap} {locs : List Loc} {ls : Array Slot} (hP : va_P (gD g) vwCl (WW g hx α hm β I J K L C Mm) H) (hD : va_D (fun q => s.heap.size ≤ q) (WW g hx α hm β I J K L C Mm)) (hS : va_S (fun q => s.heap.size ≤ q) s.heap H locs) (hl : lv_has ls 4 [(3, .int (nI i)), (2, .ref hm), (1, .ref hx), (0, .ref b)]) (kk : ∀ (I : Nat → Nat → Int32) (J : Nat → Nat → Int64) (K : Nat → Int32) (L : List Nat) (C : Nat → GC) (Mm : Nat → Nat → Int64) (H : Heap) (locs : List Loc), Inv I K L C → va_P (gD g) vwCl (WW g hx α hm β I J K L C Mm) H → va_D (fun q => s.heap.size ≤ q) (WW g hx α hm β I J K L C Mm) → va_S (fun q => s.heap.size ≤ q) s.heap H locs → W p l e room_1 s m #[Value.ref b] below meth c H locs 146 3014 Q (F0 m 918 ls [])) : W p l e room_1 s m #[Value.ref b] below meth c H locs 146 3014 Q (F0 m 724 ls []) := by
  obtain ⟨cx, hX, hbl⟩ := lc
  have hx0 := cx.1
  have hb := cx.2.1
  have hA : ∀ q : Nat, s.heap.size ≤ q → (fun q : Nat => s.heap.size ≤ q) q := fun _ h => h
  have hbA : ¬ (fun q : Nat => s.heap.size ≤ q) b := Nat.not_le.mpr hbl
  have hin : ∀ k : Nat, k < 4 → vp_in (nI i + nI k) Lx := fun k hk => by rw [nI_add]; exact vp_in_nI (by omega) (by omega)
  obtain ⟨q, r, hq, hr, heq, hI2⟩ := pr I J K L C Mm (xs (nI i + (nI 1)).toNatClampNeg) hI
  refine lv_aload_n hx0 hb dL_law_724 rfl (lv_at hl 2 rfl) ?_
  refine lv_aload_n hx0 hb dL_law_725 rfl (lv_at hl 3 rfl) ?_
  refine lv_iload_n hx0 hb dL_law_726 rfl (lv_at hl 0 rfl) ?_
  refine lv_iconst (v := (nI 1)) hx0 hb dL_law_727 (by decide) ?_
  refine lv_iadd hx0 hb dL_law_728 ?_
  refine va_sld hx0 hb hX hbl hbA hS (hin 1 (by omega)) dL_law_729 ?_
  refine w_callV cx hP hD hS hA (c_X8_edgeCoefficient g l hx (α 0) (α 4) (α 8) (α 9) (α 11) (α 14) (α 21) (α 23) (α 26) (α 1) (α 2) (α 3) (α 15) (α 16) (α 17) (α 18) (α 19) (α 20) (α 24) (α 25) (xs (nI i + (nI 1)).toNatClampNeg) (K 0) (K 1) (I 0) (I 1) (I 2) (J 0) (J 4) (J 5) (J 6) hq) [0, 1, 2, 3, 4, 15, 16, 20, 21, 24, 25] (pre_C rfl) (by decide) rfl (WW g hx α hm β I (upf (upf (upf (upf J 0 q.2.1) 4 q.2.2.1) 5 q.2.2.2.1) 6 q.2.2.2.2) K L C Mm) (pre_S (k := 49) rfl (by decide) rfl) 0 8 rfl rfl yq_X8_edgeCoefficient rfl m_532 m_533 m_534 m_42 m_535 ⟨Nat.le_of_ble_eq_true rfl, Nat.le_of_ble_eq_true rfl⟩ rfl rfl hl.1 (Nat.le_of_ble_eq_true rfl) dL_law_730 ⟨Nat.le_of_ble_eq_true rfl, Nat.le_of_ble_eq_true rfl⟩ rfl (fun H locs hP hD hS => ?_)
  refine lv_aload_n hx0 hb dL_law_733 rfl (lv_at hl 1 rfl) ?_
  refine lv_aload_n hx0 hb dL_law_734 rfl (lv_at hl 3 rfl) ?_
  refine lv_iload_n hx0 hb dL_law_735 rfl (lv_at hl 0 rfl) ?_
  refine lv_iconst (v := (nI 1)) hx0 hb dL_law_736 (by decide) ?_
  refine lv_iadd hx0 hb dL_law_737 ?_
  refine va_sld hx0 hb hX hbl hbA hS (hin 1 (by omega)) dL_law_738 ?_
  refine w_callV cx hP hD hS hA (c_X9_edgeCoefficient g l hm (β 0) (β 1) (β 2) (β 3) (β 4) (β 5) (β 6) (β 7) (β 8) (β 9) (β 10) (β 11) (β 12) (β 13) (β 14) (β 15) (β 16) (β 17) (xs (nI i + (nI 1)).toNatClampNeg) (K 11) (K 12) (K 13) (K 14) (I 10) (J 9) (J 12) (J 13) (J 14) (J 15) (J 16) hr) [30, 31, 36, 39, 40, 41, 42, 43] (pre_C rfl) (by decide) rfl (WW g hx α hm β I (upf (upf (upf (upf (upf (upf (upf (upf (upf (upf J 0 q.2.1) 4 q.2.2.1) 5 q.2.2.2.1) 6 q.2.2.2.2) 9 r.2.2.1) 12 r.2.2.2.1) 13 r.2.2.2.2.1) 14 r.2.2.2.2.2.1) 15 r.2.2.2.2.2.2.1) 16 r.2.2.2.2.2.2.2) (upf K 14 r.2.1) L C Mm) (pre_S (k := 49) rfl (by decide) rfl) 30 9 rfl rfl yq_X9_edgeCoefficient rfl m_891 m_892 m_893 m_51 m_894 ⟨Nat.le_of_ble_eq_true rfl, Nat.le_of_ble_eq_true rfl⟩ rfl rfl hl.1 (Nat.le_of_ble_eq_true rfl) dL_law_739 ⟨Nat.le_of_ble_eq_true rfl, Nat.le_of_ble_eq_true rfl⟩ rfl (fun H locs hP hD hS => ?_)
  refine W.lcmp hx0 hb dL_law_742 ?_
  refine lv_if_eq (tgt := 918) hx0 hb dL_law_743 (by decide) (fun _ => ?_) (fun c_ => absurd (cmp_eq heq) c_)
  exact kk I (upf (upf (upf (upf (upf (upf (upf (upf (upf (upf J 0 q.2.1) 4 q.2.2.1) 5 q.2.2.2.1) 6 q.2.2.2.2) 9 r.2.2.1) 12 r.2.2.2.1) 13 r.2.2.2.2.1) 14 r.2.2.2.2.2.1) 15 r.2.2.2.2.2.2.1) 16 r.2.2.2.2.2.2.2) (upf K 14 r.2.1) L C Mm H locs hI2 hP hD hS
set_option maxHeartbeats 4000000 in
set_option maxRecDepth 100000 in
theorem law_signedCoefficient (pr : Pr_signedCoefficient) {g : GG} {p : Program} {l : Launch} {e : Env} {s : State} {m : MethodId} {below : List Frame} {meth : Method} {c : Code} {b Lx : Nat} {xs : Nat → Int32} {Q : State → Prop} (lc : LC g p s m c b Lx xs) {hx hm : Nat} {α β : Nat → Nat} {i : Nat} (hL : Lx ≤ 2048) (hi : i + 4 ≤ Lx) {I : Nat → Nat → Int32} {J : Nat → Nat → Int64} {K : Nat → Int32} {L : List Nat} {C : Nat → GC} {Mm : Nat → Nat → Int64} (hI : Inv I K L C) {H : Heap} {locs : List Loc} {ls : Array Slot} (hP : va_P (gD g) vwCl (WW g hx α hm β I J K L C Mm) H) (hD : va_D (fun q => s.heap.size ≤ q) (WW g hx α hm β I J K L C Mm)) (hS : va_S (fun q => s.heap.size ≤ q) s.heap H locs) (hl : lv_has ls 4 [(3, .int (nI i)), (2, .ref hm), (1, .ref hx), (0, .ref b)]) (kk : ∀ (I : Nat → Nat → Int32) (J : Nat → Nat → Int64) (K : Nat → Int32) (L : List Nat) (C : Nat → GC) (Mm : Nat → Nat → Int64) (H : Heap) (locs : List Loc), Inv I K L C → va_P (gD g) vwCl (WW g hx α hm β I J K L C Mm) H → va_D (fun q => s.heap.size ≤ q) (WW g hx α hm β I J K L C Mm) → va_S (fun q => s.heap.size ≤ q) s.heap H locs → W p l e room_1 s m #[Value.ref b] below meth c H locs 146 3014 Q (F0 m 918 ls [])) : W p l e room_1 s m #[Value.ref b] below meth c H locs 146 3014 Q (F0 m 748 ls []) := by
  obtain ⟨cx, hX, hbl⟩ := lc
  have hx0 := cx.1
  have hb := cx.2.1
  have hA : ∀ q : Nat, s.heap.size ≤ q → (fun q : Nat => s.heap.size ≤ q) q := fun _ h => h
  have hbA : ¬ (fun q : Nat => s.heap.size ≤ q) b := Nat.not_le.mpr hbl
  have hin : ∀ k : Nat, k < 4 → vp_in (nI i + nI k) Lx := fun k hk => by rw [nI_add]; exact vp_in_nI (by omega) (by omega)
  obtain ⟨q, r, hq, hr, heq, hI2⟩ := pr I J K L C Mm (xs (nI i + (nI 1)).toNatClampNeg) hI
  refine lv_aload_n hx0 hb dL_law_748 rfl (lv_at hl 2 rfl) ?_
  refine lv_aload_n hx0 hb dL_law_749 rfl (lv_at hl 3 rfl) ?_
  refine lv_iload_n hx0 hb dL_law_750 rfl (lv_at hl 0 rfl) ?_
  refine lv_iconst (v := (nI 1)) hx0 hb dL_law_751 (by decide) ?_
  refine lv_iadd hx0 hb dL_law_752 ?_
  refine va_sld hx0 hb hX hbl hbA hS (hin 1 (by omega)) dL_law_753 ?_
  refine w_callV cx hP hD hS hA (c_X8_signedCoefficient g l hx (α 0) (α 4) (α 8) (α 9) (α 11) (α 14) (α 21) (α 23) (α 26) (α 1) (α 2) (α 3) (α 15) (α 16) (α 17) (α 18) (α 19) (α 20) (α 24) (α 25) (xs (nI i + (nI 1)).toNatClampNeg) (K 0) (K 1) (I 0) (I 1) (I 2) (J 1) (J 4) (J 5) (J 6) hq) [0, 1, 2, 3, 4, 15, 17, 20, 21, 24, 25] (pre_C rfl) (by decide) rfl (WW g hx α hm β I (upf (upf (upf (upf J 1 q.2.1) 4 q.2.2.1) 5 q.2.2.2.1) 6 q.2.2.2.2) K L C Mm) (pre_S (k := 49) rfl (by decide) rfl) 0 8 rfl rfl yq_X8_signedCoefficient rfl m_547 m_548 m_549 m_42 m_550 ⟨Nat.le_of_ble_eq_true rfl, Nat.le_of_ble_eq_true rfl⟩ rfl rfl hl.1 (Nat.le_of_ble_eq_true rfl) dL_law_754 ⟨Nat.le_of_ble_eq_true rfl, Nat.le_of_ble_eq_true rfl⟩ rfl (fun H locs hP hD hS => ?_)
  refine lv_aload_n hx0 hb dL_law_757 rfl (lv_at hl 1 rfl) ?_
  refine lv_aload_n hx0 hb dL_law_758 rfl (lv_at hl 3 rfl) ?_
  refine lv_iload_n hx0 hb dL_law_759 rfl (lv_at hl 0 rfl) ?_
  refine lv_iconst (v := (nI 1)) hx0 hb dL_law_760 (by decide) ?_
  refine lv_iadd hx0 hb dL_law_761 ?_
  refine va_sld hx0 hb hX hbl hbA hS (hin 1 (by omega)) dL_law_762 ?_
  refine w_callV cx hP hD hS hA (c_X9_signedCoefficient g l hm (β 0) (β 1) (β 2) (β 3) (β 4) (β 5) (β 6) (β 7) (β 8) (β 9) (β 10) (β 11) (β 12) (β 13) (β 14) (β 15) (β 16) (β 17) (xs (nI i + (nI 1)).toNatClampNeg) (K 11) (K 12) (K 13) (K 14) (I 10) (J 9) (J 12) (J 13) (J 14) (J 15) (J 16) hr) [30, 31, 36, 39, 40, 41, 42, 43] (pre_C rfl) (by decide) rfl (WW g hx α hm β I (upf (upf (upf (upf (upf (upf (upf (upf (upf (upf J 1 q.2.1) 4 q.2.2.1) 5 q.2.2.2.1) 6 q.2.2.2.2) 9 r.2.2.1) 12 r.2.2.2.1) 13 r.2.2.2.2.1) 14 r.2.2.2.2.2.1) 15 r.2.2.2.2.2.2.1) 16 r.2.2.2.2.2.2.2) (upf K 14 r.2.1) L C Mm) (pre_S (k := 49) rfl (by decide) rfl) 30 9 rfl rfl yq_X9_signedCoefficient rfl m_911 m_912 m_913 m_51 m_914 ⟨Nat.le_of_ble_eq_true rfl, Nat.le_of_ble_eq_true rfl⟩ rfl rfl hl.1 (Nat.le_of_ble_eq_true rfl) dL_law_763 ⟨Nat.le_of_ble_eq_true rfl, Nat.le_of_ble_eq_true rfl⟩ rfl (fun H locs hP hD hS => ?_)
  refine W.lcmp hx0 hb dL_law_766 ?_
  refine lv_if_eq (tgt := 918) hx0 hb dL_law_767 (by decide) (fun _ => ?_) (fun c_ => absurd (cmp_eq heq) c_)
  exact kk I (upf (upf (upf (upf (upf (upf (upf (upf (upf (upf J 1 q.2.1) 4 q.2.2.1) 5 q.2.2.2.1) 6 q.2.2.2.2) 9 r.2.2.1) 12 r.2.2.2.1) 13 r.2.2.2.2.1) 14 r.2.2.2.2.2.1) 15 r.2.2.2.2.2.2.1) 16 r.2.2.2.2.2.2.2) (upf K 14 r.2.1) L C Mm H locs hI2 hP hD hS
set_option maxHeartbeats 4000000 in
set_option maxRecDepth 100000 in
theorem law_vertexCoefficient (pr : Pr_vertexCoefficient) {g : GG} {p : Program} {l : Launch} {e : Env} {s : State} {m : MethodId} {below : List Frame} {meth : Method} {c : Code} {b Lx : Nat} {xs : Nat → Int32} {Q : State → Prop} (lc : LC g p s m c b Lx xs) {hx hm : Nat} {α β : Nat → Nat} {i : Nat} (hL : Lx ≤ 2048) (hi : i + 4 ≤ Lx) {I : Nat → Nat → Int32} {J : Nat → Nat → Int64} {K : Nat → Int32} {L : List Nat} {C : Nat → GC} {Mm : Nat → Nat → Int64} (hI : Inv I K L C) {H : Heap} {locs : List Loc} {ls : Array Slot} (hP : va_P (gD g) vwCl (WW g hx α hm β I J K L C Mm) H) (hD : va_D (fun q => s.heap.size ≤ q) (WW g hx α hm β I J K L C Mm)) (hS : va_S (fun q => s.heap.size ≤ q) s.heap H locs) (hl : lv_has ls 4 [(3, .int (nI i)), (2, .ref hm), (1, .ref hx), (0, .ref b)]) (kk : ∀ (I : Nat → Nat → Int32) (J : Nat → Nat → Int64) (K : Nat → Int32) (L : List Nat) (C : Nat → GC) (Mm : Nat → Nat → Int64) (H : Heap) (locs : List Loc), Inv I K L C → va_P (gD g) vwCl (WW g hx α hm β I J K L C Mm) H → va_D (fun q => s.heap.size ≤ q) (WW g hx α hm β I J K L C Mm) → va_S (fun q => s.heap.size ≤ q) s.heap H locs → W p l e room_1 s m #[Value.ref b] below meth c H locs 146 3014 Q (F0 m 918 ls [])) : W p l e room_1 s m #[Value.ref b] below meth c H locs 146 3014 Q (F0 m 772 ls []) := by
  obtain ⟨cx, hX, hbl⟩ := lc
  have hx0 := cx.1
  have hb := cx.2.1
  have hA : ∀ q : Nat, s.heap.size ≤ q → (fun q : Nat => s.heap.size ≤ q) q := fun _ h => h
  have hbA : ¬ (fun q : Nat => s.heap.size ≤ q) b := Nat.not_le.mpr hbl
  have hin : ∀ k : Nat, k < 4 → vp_in (nI i + nI k) Lx := fun k hk => by rw [nI_add]; exact vp_in_nI (by omega) (by omega)
  obtain ⟨q, r, hq, hr, heq, hI2⟩ := pr I J K L C Mm (xs (nI i + (nI 1)).toNatClampNeg) hI
  refine lv_aload_n hx0 hb dL_law_772 rfl (lv_at hl 2 rfl) ?_
  refine lv_aload_n hx0 hb dL_law_773 rfl (lv_at hl 3 rfl) ?_
  refine lv_iload_n hx0 hb dL_law_774 rfl (lv_at hl 0 rfl) ?_
  refine lv_iconst (v := (nI 1)) hx0 hb dL_law_775 (by decide) ?_
  refine lv_iadd hx0 hb dL_law_776 ?_
  refine va_sld hx0 hb hX hbl hbA hS (hin 1 (by omega)) dL_law_777 ?_
  refine w_callV cx hP hD hS hA (c_X8_vertexCoefficient g l hx (α 0) (α 4) (α 8) (α 9) (α 11) (α 14) (α 21) (α 23) (α 26) (α 1) (α 2) (α 3) (α 27) (α 28) (fun i => α (i + 62)) (xs (nI i + (nI 1)).toNatClampNeg) (K 0) (K 1) (I 0) (I 1) (J 8) Mm hq) ([0, 1, 2, 3, 27, 28, 29] ++ blk (49 + 33) 64) (end_C rfl grp_len mrows_len rfl) (blk_nd (by decide) (by decide)) (blk_f rfl mrows_f) (WW g hx α hm β I (upf J 8 q.2.1) K L C q.2.2) (end_S rfl grp_len mrows_len mrows_len rfl (by decide) rfl) 0 8 rfl rfl yq_X8_vertexCoefficient rfl m_551 m_552 m_553 m_42 m_554 ⟨Nat.le_of_ble_eq_true rfl, Nat.le_of_ble_eq_true rfl⟩ rfl rfl hl.1 (Nat.le_of_ble_eq_true rfl) dL_law_778 ⟨Nat.le_of_ble_eq_true rfl, Nat.le_of_ble_eq_true rfl⟩ rfl (fun H locs hP hD hS => ?_)
  refine lv_aload_n hx0 hb dL_law_781 rfl (lv_at hl 1 rfl) ?_
  refine lv_aload_n hx0 hb dL_law_782 rfl (lv_at hl 3 rfl) ?_
  refine lv_iload_n hx0 hb dL_law_783 rfl (lv_at hl 0 rfl) ?_
  refine lv_iconst (v := (nI 1)) hx0 hb dL_law_784 (by decide) ?_
  refine lv_iadd hx0 hb dL_law_785 ?_
  refine va_sld hx0 hb hX hbl hbA hS (hin 1 (by omega)) dL_law_786 ?_
  refine w_callV cx hP hD hS hA (c_X9_vertexCoefficient g l hm (β 0) (β 1) (β 2) (β 3) (β 4) (β 5) (β 6) (β 7) (β 8) (β 9) (β 10) (β 11) (β 12) (β 13) (β 14) (β 15) (β 16) (β 17) (xs (nI i + (nI 1)).toNatClampNeg) (K 11) (K 12) (K 13) (K 14) (I 10) (J 9) (J 12) (J 13) (J 14) (J 15) (J 16) hr) [30, 31, 36, 39, 40, 41, 42, 43] (pre_C rfl) (by decide) rfl (WW g hx α hm β I (upf (upf (upf (upf (upf (upf (upf J 8 q.2.1) 9 r.2.2.1) 12 r.2.2.2.1) 13 r.2.2.2.2.1) 14 r.2.2.2.2.2.1) 15 r.2.2.2.2.2.2.1) 16 r.2.2.2.2.2.2.2) (upf K 14 r.2.1) L C q.2.2) (pre_S (k := 49) rfl (by decide) rfl) 30 9 rfl rfl yq_X9_vertexCoefficient rfl m_915 m_916 m_917 m_51 m_918 ⟨Nat.le_of_ble_eq_true rfl, Nat.le_of_ble_eq_true rfl⟩ rfl rfl hl.1 (Nat.le_of_ble_eq_true rfl) dL_law_787 ⟨Nat.le_of_ble_eq_true rfl, Nat.le_of_ble_eq_true rfl⟩ rfl (fun H locs hP hD hS => ?_)
  refine W.lcmp hx0 hb dL_law_790 ?_
  refine lv_if_eq (tgt := 918) hx0 hb dL_law_791 (by decide) (fun _ => ?_) (fun c_ => absurd (cmp_eq heq) c_)
  exact kk I (upf (upf (upf (upf (upf (upf (upf J 8 q.2.1) 9 r.2.2.1) 12 r.2.2.2.1) 13 r.2.2.2.2.1) 14 r.2.2.2.2.2.1) 15 r.2.2.2.2.2.2.1) 16 r.2.2.2.2.2.2.2) (upf K 14 r.2.1) L C q.2.2 H locs hI2 hP hD hS
set_option maxHeartbeats 4000000 in
set_option maxRecDepth 100000 in
theorem law_bassCoefficient (pr : Pr_bassCoefficient) {g : GG} {p : Program} {l : Launch} {e : Env} {s : State} {m : MethodId} {below : List Frame} {meth : Method} {c : Code} {b Lx : Nat} {xs : Nat → Int32} {Q : State → Prop} (lc : LC g p s m c b Lx xs) {hx hm : Nat} {α β : Nat → Nat} {i : Nat} (hL : Lx ≤ 2048) (hi : i + 4 ≤ Lx) {I : Nat → Nat → Int32} {J : Nat → Nat → Int64} {K : Nat → Int32} {L : List Nat} {C : Nat → GC} {Mm : Nat → Nat → Int64} (hI : Inv I K L C) {H : Heap} {locs : List Loc} {ls : Array Slot} (hP : va_P (gD g) vwCl (WW g hx α hm β I J K L C Mm) H) (hD : va_D (fun q => s.heap.size ≤ q) (WW g hx α hm β I J K L C Mm)) (hS : va_S (fun q => s.heap.size ≤ q) s.heap H locs) (hl : lv_has ls 4 [(3, .int (nI i)), (2, .ref hm), (1, .ref hx), (0, .ref b)]) (kk : ∀ (I : Nat → Nat → Int32) (J : Nat → Nat → Int64) (K : Nat → Int32) (L : List Nat) (C : Nat → GC) (Mm : Nat → Nat → Int64) (H : Heap) (locs : List Loc), Inv I K L C → va_P (gD g) vwCl (WW g hx α hm β I J K L C Mm) H → va_D (fun q => s.heap.size ≤ q) (WW g hx α hm β I J K L C Mm) → va_S (fun q => s.heap.size ≤ q) s.heap H locs → W p l e room_1 s m #[Value.ref b] below meth c H locs 146 3014 Q (F0 m 918 ls [])) : W p l e room_1 s m #[Value.ref b] below meth c H locs 146 3014 Q (F0 m 796 ls []) := by
  obtain ⟨cx, hX, hbl⟩ := lc
  have hx0 := cx.1
  have hb := cx.2.1
  have hA : ∀ q : Nat, s.heap.size ≤ q → (fun q : Nat => s.heap.size ≤ q) q := fun _ h => h
  have hbA : ¬ (fun q : Nat => s.heap.size ≤ q) b := Nat.not_le.mpr hbl
  have hin : ∀ k : Nat, k < 4 → vp_in (nI i + nI k) Lx := fun k hk => by rw [nI_add]; exact vp_in_nI (by omega) (by omega)
  obtain ⟨q, r, hq, hr, heq, hI2⟩ := pr I J K L C Mm (xs (nI i + (nI 1)).toNatClampNeg) hI
  refine lv_aload_n hx0 hb dL_law_796 rfl (lv_at hl 2 rfl) ?_
  refine lv_aload_n hx0 hb dL_law_797 rfl (lv_at hl 3 rfl) ?_
  refine lv_iload_n hx0 hb dL_law_798 rfl (lv_at hl 0 rfl) ?_
  refine lv_iconst (v := (nI 1)) hx0 hb dL_law_799 (by decide) ?_
  refine lv_iadd hx0 hb dL_law_800 ?_
  refine va_sld hx0 hb hX hbl hbA hS (hin 1 (by omega)) dL_law_801 ?_
  refine w_callV cx hP hD hS hA (c_X8_bassCoefficient g l hx (α 0) (α 4) (α 8) (α 9) (α 11) (α 14) (α 21) (α 23) (α 26) (α 1) (α 2) (α 3) (α 27) (α 28) (fun i => α (i + 62)) (xs (nI i + (nI 1)).toNatClampNeg) (K 0) (K 1) (I 0) (I 1) (J 8) Mm hq) ([0, 1, 2, 3, 27, 28, 29] ++ blk (49 + 33) 64) (end_C rfl grp_len mrows_len rfl) (blk_nd (by decide) (by decide)) (blk_f rfl mrows_f) (WW g hx α hm β I (upf J 8 q.2.1) K L C q.2.2) (end_S rfl grp_len mrows_len mrows_len rfl (by decide) rfl) 0 8 rfl rfl yq_X8_bassCoefficient rfl m_584 m_585 m_586 m_42 m_587 ⟨Nat.le_of_ble_eq_true rfl, Nat.le_of_ble_eq_true rfl⟩ rfl rfl hl.1 (Nat.le_of_ble_eq_true rfl) dL_law_802 ⟨Nat.le_of_ble_eq_true rfl, Nat.le_of_ble_eq_true rfl⟩ rfl (fun H locs hP hD hS => ?_)
  refine lv_aload_n hx0 hb dL_law_805 rfl (lv_at hl 1 rfl) ?_
  refine lv_aload_n hx0 hb dL_law_806 rfl (lv_at hl 3 rfl) ?_
  refine lv_iload_n hx0 hb dL_law_807 rfl (lv_at hl 0 rfl) ?_
  refine lv_iconst (v := (nI 1)) hx0 hb dL_law_808 (by decide) ?_
  refine lv_iadd hx0 hb dL_law_809 ?_
  refine va_sld hx0 hb hX hbl hbA hS (hin 1 (by omega)) dL_law_810 ?_
  refine w_callV cx hP hD hS hA (c_X9_bassCoefficient g l hm (β 0) (β 1) (β 2) (β 3) (β 4) (β 5) (β 6) (β 7) (β 8) (β 9) (β 10) (β 11) (β 12) (β 13) (β 14) (β 15) (β 16) (β 17) (xs (nI i + (nI 1)).toNatClampNeg) (K 11) (K 12) (K 13) (K 14) (I 10) (J 9) (J 12) (J 13) (J 14) (J 15) (J 16) hr) [30, 31, 36, 39, 40, 41, 42, 43] (pre_C rfl) (by decide) rfl (WW g hx α hm β I (upf (upf (upf (upf (upf (upf (upf J 8 q.2.1) 9 r.2.2.1) 12 r.2.2.2.1) 13 r.2.2.2.2.1) 14 r.2.2.2.2.2.1) 15 r.2.2.2.2.2.2.1) 16 r.2.2.2.2.2.2.2) (upf K 14 r.2.1) L C q.2.2) (pre_S (k := 49) rfl (by decide) rfl) 30 9 rfl rfl yq_X9_bassCoefficient rfl m_923 m_924 m_925 m_51 m_926 ⟨Nat.le_of_ble_eq_true rfl, Nat.le_of_ble_eq_true rfl⟩ rfl rfl hl.1 (Nat.le_of_ble_eq_true rfl) dL_law_811 ⟨Nat.le_of_ble_eq_true rfl, Nat.le_of_ble_eq_true rfl⟩ rfl (fun H locs hP hD hS => ?_)
  refine W.lcmp hx0 hb dL_law_814 ?_
  refine lv_if_eq (tgt := 918) hx0 hb dL_law_815 (by decide) (fun _ => ?_) (fun c_ => absurd (cmp_eq heq) c_)
  exact kk I (upf (upf (upf (upf (upf (upf (upf J 8 q.2.1) 9 r.2.2.1) 12 r.2.2.2.1) 13 r.2.2.2.2.1) 14 r.2.2.2.2.2.1) 15 r.2.2.2.2.2.2.1) 16 r.2.2.2.2.2.2.2) (upf K 14 r.2.1) L C q.2.2 H locs hI2 hP hD hS
set_option maxHeartbeats 4000000 in
set_option maxRecDepth 100000 in
theorem law_zetaCoefficient (pr : Pr_zetaCoefficient) {g : GG} {p : Program} {l : Launch} {e : Env} {s : State} {m : MethodId} {below : List Frame} {meth : Method} {c : Code} {b Lx : Nat} {xs : Nat → Int32} {Q : State → Prop} (lc : LC g p s m c b Lx xs) {hx hm : Nat} {α β : Nat → Nat} {i : Nat} (hL : Lx ≤ 2048) (hi : i + 4 ≤ Lx) {I : Nat → Nat → Int32} {J : Nat → Nat → Int64} {K : Nat → Int32} {L : List Nat} {C : Nat → GC} {Mm : Nat → Nat → Int64} (hI : Inv I K L C) {H : Heap} {locs : List Loc} {ls : Array Slot} (hP : va_P (gD g) vwCl (WW g hx α hm β I J K L C Mm) H) (hD : va_D (fun q => s.heap.size ≤ q) (WW g hx α hm β I J K L C Mm)) (hS : va_S (fun q => s.heap.size ≤ q) s.heap H locs) (hl : lv_has ls 4 [(3, .int (nI i)), (2, .ref hm), (1, .ref hx), (0, .ref b)]) (kk : ∀ (I : Nat → Nat → Int32) (J : Nat → Nat → Int64) (K : Nat → Int32) (L : List Nat) (C : Nat → GC) (Mm : Nat → Nat → Int64) (H : Heap) (locs : List Loc), Inv I K L C → va_P (gD g) vwCl (WW g hx α hm β I J K L C Mm) H → va_D (fun q => s.heap.size ≤ q) (WW g hx α hm β I J K L C Mm) → va_S (fun q => s.heap.size ≤ q) s.heap H locs → W p l e room_1 s m #[Value.ref b] below meth c H locs 146 3014 Q (F0 m 918 ls [])) : W p l e room_1 s m #[Value.ref b] below meth c H locs 146 3014 Q (F0 m 820 ls []) := by
  obtain ⟨cx, hX, hbl⟩ := lc
  have hx0 := cx.1
  have hb := cx.2.1
  have hA : ∀ q : Nat, s.heap.size ≤ q → (fun q : Nat => s.heap.size ≤ q) q := fun _ h => h
  have hbA : ¬ (fun q : Nat => s.heap.size ≤ q) b := Nat.not_le.mpr hbl
  have hin : ∀ k : Nat, k < 4 → vp_in (nI i + nI k) Lx := fun k hk => by rw [nI_add]; exact vp_in_nI (by omega) (by omega)
  obtain ⟨q, r, hq, hr, heq, hI2⟩ := pr I J K L C Mm (xs (nI i + (nI 1)).toNatClampNeg) hI
  refine lv_aload_n hx0 hb dL_law_820 rfl (lv_at hl 2 rfl) ?_
  refine lv_aload_n hx0 hb dL_law_821 rfl (lv_at hl 3 rfl) ?_
  refine lv_iload_n hx0 hb dL_law_822 rfl (lv_at hl 0 rfl) ?_
  refine lv_iconst (v := (nI 1)) hx0 hb dL_law_823 (by decide) ?_
  refine lv_iadd hx0 hb dL_law_824 ?_
  refine va_sld hx0 hb hX hbl hbA hS (hin 1 (by omega)) dL_law_825 ?_
  refine w_callV cx hP hD hS hA (c_X8_zetaCoefficient g l hx (α 0) (α 4) (α 8) (α 9) (α 11) (α 14) (α 21) (α 23) (α 26) (α 1) (α 2) (α 3) (α 15) (α 16) (α 17) (α 18) (α 19) (α 20) (α 24) (α 25) (xs (nI i + (nI 1)).toNatClampNeg) (K 0) (K 1) (I 0) (I 1) (I 2) (J 0) (J 4) (J 5) (J 6) (J 7) hq) [0, 1, 2, 3, 4, 15, 16, 20, 21, 24, 25, 26] (pre_C rfl) (by decide) rfl (WW g hx α hm β I (upf (upf (upf (upf (upf J 0 q.2.1) 4 q.2.2.1) 5 q.2.2.2.1) 6 q.2.2.2.2.1) 7 q.2.2.2.2.2) K L C Mm) (pre_S (k := 49) rfl (by decide) rfl) 0 8 rfl rfl yq_X8_zetaCoefficient rfl m_592 m_593 m_594 m_42 m_595 ⟨Nat.le_of_ble_eq_true rfl, Nat.le_of_ble_eq_true rfl⟩ rfl rfl hl.1 (Nat.le_of_ble_eq_true rfl) dL_law_826 ⟨Nat.le_of_ble_eq_true rfl, Nat.le_of_ble_eq_true rfl⟩ rfl (fun H locs hP hD hS => ?_)
  refine lv_aload_n hx0 hb dL_law_829 rfl (lv_at hl 1 rfl) ?_
  refine lv_aload_n hx0 hb dL_law_830 rfl (lv_at hl 3 rfl) ?_
  refine lv_iload_n hx0 hb dL_law_831 rfl (lv_at hl 0 rfl) ?_
  refine lv_iconst (v := (nI 1)) hx0 hb dL_law_832 (by decide) ?_
  refine lv_iadd hx0 hb dL_law_833 ?_
  refine va_sld hx0 hb hX hbl hbA hS (hin 1 (by omega)) dL_law_834 ?_
  refine w_callV cx hP hD hS hA (c_X9_zetaCoefficient g l hm (β 0) (β 1) (β 2) (β 3) (β 4) (β 5) (β 6) (β 7) (β 8) (β 9) (β 10) (β 11) (β 12) (β 13) (β 14) (β 15) (β 16) (β 17) (xs (nI i + (nI 1)).toNatClampNeg) (K 11) (K 12) (K 13) (K 14) (I 10) (J 9) (J 12) (J 13) (J 14) (J 15) (J 16) hr) [30, 31, 36, 39, 40, 41, 42, 43] (pre_C rfl) (by decide) rfl (WW g hx α hm β I (upf (upf (upf (upf (upf (upf (upf (upf (upf (upf (upf J 0 q.2.1) 4 q.2.2.1) 5 q.2.2.2.1) 6 q.2.2.2.2.1) 7 q.2.2.2.2.2) 9 r.2.2.1) 12 r.2.2.2.1) 13 r.2.2.2.2.1) 14 r.2.2.2.2.2.1) 15 r.2.2.2.2.2.2.1) 16 r.2.2.2.2.2.2.2) (upf K 14 r.2.1) L C Mm) (pre_S (k := 49) rfl (by decide) rfl) 30 9 rfl rfl yq_X9_zetaCoefficient rfl m_931 m_932 m_933 m_51 m_934 ⟨Nat.le_of_ble_eq_true rfl, Nat.le_of_ble_eq_true rfl⟩ rfl rfl hl.1 (Nat.le_of_ble_eq_true rfl) dL_law_835 ⟨Nat.le_of_ble_eq_true rfl, Nat.le_of_ble_eq_true rfl⟩ rfl (fun H locs hP hD hS => ?_)
  refine W.lcmp hx0 hb dL_law_838 ?_
  refine lv_if_eq (tgt := 918) hx0 hb dL_law_839 (by decide) (fun _ => ?_) (fun c_ => absurd (cmp_eq heq) c_)
  exact kk I (upf (upf (upf (upf (upf (upf (upf (upf (upf (upf (upf J 0 q.2.1) 4 q.2.2.1) 5 q.2.2.2.1) 6 q.2.2.2.2.1) 7 q.2.2.2.2.2) 9 r.2.2.1) 12 r.2.2.2.1) 13 r.2.2.2.2.1) 14 r.2.2.2.2.2.1) 15 r.2.2.2.2.2.2.1) 16 r.2.2.2.2.2.2.2) (upf K 14 r.2.1) L C Mm H locs hI2 hP hD hS
set_option maxHeartbeats 4000000 in
set_option maxRecDepth 100000 in
theorem law_edgeValue (pr : Pr_edgeValue) {g : GG} {p : Program} {l : Launch} {e : Env} {s : State} {m : MethodId} {below : List Frame} {meth : Method} {c : Code} {b Lx : Nat} {xs : Nat → Int32} {Q : State → Prop} (lc : LC g p s m c b Lx xs) {hx hm : Nat} {α β : Nat → Nat} {i : Nat} (hL : Lx ≤ 2048) (hi : i + 4 ≤ Lx) {I : Nat → Nat → Int32} {J : Nat → Nat → Int64} {K : Nat → Int32} {L : List Nat} {C : Nat → GC} {Mm : Nat → Nat → Int64} (hI : Inv I K L C) {H : Heap} {locs : List Loc} {ls : Array Slot} (hP : va_P (gD g) vwCl (WW g hx α hm β I J K L C Mm) H) (hD : va_D (fun q => s.heap.size ≤ q) (WW g hx α hm β I J K L C Mm)) (hS : va_S (fun q => s.heap.size ≤ q) s.heap H locs) (hl : lv_has ls 4 [(3, .int (nI i)), (2, .ref hm), (1, .ref hx), (0, .ref b)]) (kk : ∀ (I : Nat → Nat → Int32) (J : Nat → Nat → Int64) (K : Nat → Int32) (L : List Nat) (C : Nat → GC) (Mm : Nat → Nat → Int64) (H : Heap) (locs : List Loc), Inv I K L C → va_P (gD g) vwCl (WW g hx α hm β I J K L C Mm) H → va_D (fun q => s.heap.size ≤ q) (WW g hx α hm β I J K L C Mm) → va_S (fun q => s.heap.size ≤ q) s.heap H locs → W p l e room_1 s m #[Value.ref b] below meth c H locs 146 3014 Q (F0 m 918 ls [])) : W p l e room_1 s m #[Value.ref b] below meth c H locs 146 3014 Q (F0 m 844 ls []) := by
  obtain ⟨cx, hX, hbl⟩ := lc
  have hx0 := cx.1
  have hb := cx.2.1
  have hA : ∀ q : Nat, s.heap.size ≤ q → (fun q : Nat => s.heap.size ≤ q) q := fun _ h => h
  have hbA : ¬ (fun q : Nat => s.heap.size ≤ q) b := Nat.not_le.mpr hbl
  have hin : ∀ k : Nat, k < 4 → vp_in (nI i + nI k) Lx := fun k hk => by rw [nI_add]; exact vp_in_nI (by omega) (by omega)
  obtain ⟨q, r, hq, hr, heq, hI2⟩ := pr I J K L C Mm (xs (nI i + (nI 1)).toNatClampNeg) hI
  refine lv_aload_n hx0 hb dL_law_844 rfl (lv_at hl 2 rfl) ?_
  refine lv_aload_n hx0 hb dL_law_845 rfl (lv_at hl 3 rfl) ?_
  refine lv_iload_n hx0 hb dL_law_846 rfl (lv_at hl 0 rfl) ?_
  refine lv_iconst (v := (nI 1)) hx0 hb dL_law_847 (by decide) ?_
  refine lv_iadd hx0 hb dL_law_848 ?_
  refine va_sld hx0 hb hX hbl hbA hS (hin 1 (by omega)) dL_law_849 ?_
  refine w_callV cx hP hD hS hA (c_X8_edgeValue g l hx (α 0) (α 4) (α 8) (α 9) (α 11) (α 14) (α 21) (α 23) (α 26) (α 1) (α 2) (α 3) (α 15) (α 16) (α 17) (α 18) (α 19) (α 20) (α 24) (α 25) (xs (nI i + (nI 1)).toNatClampNeg) (K 0) (K 1) (I 0) (I 1) (I 2) (J 0) (J 4) (J 5) (J 6) hq) [0, 1, 2, 3, 4, 15, 16, 20, 21, 24, 25] (pre_C rfl) (by decide) rfl (WW g hx α hm β I (upf (upf (upf (upf J 0 q.2.1) 4 q.2.2.1) 5 q.2.2.2.1) 6 q.2.2.2.2) K L C Mm) (pre_S (k := 49) rfl (by decide) rfl) 0 8 rfl rfl yq_X8_edgeValue rfl m_600 m_601 m_602 m_42 m_603 ⟨Nat.le_of_ble_eq_true rfl, Nat.le_of_ble_eq_true rfl⟩ rfl rfl hl.1 (Nat.le_of_ble_eq_true rfl) dL_law_850 ⟨Nat.le_of_ble_eq_true rfl, Nat.le_of_ble_eq_true rfl⟩ rfl (fun H locs hP hD hS => ?_)
  refine lv_aload_n hx0 hb dL_law_853 rfl (lv_at hl 1 rfl) ?_
  refine lv_aload_n hx0 hb dL_law_854 rfl (lv_at hl 3 rfl) ?_
  refine lv_iload_n hx0 hb dL_law_855 rfl (lv_at hl 0 rfl) ?_
  refine lv_iconst (v := (nI 1)) hx0 hb dL_law_856 (by decide) ?_
  refine lv_iadd hx0 hb dL_law_857 ?_
  refine va_sld hx0 hb hX hbl hbA hS (hin 1 (by omega)) dL_law_858 ?_
  refine w_callV cx hP hD hS hA (c_X9_edgeValue g l hm (β 0) (β 1) (β 2) (β 3) (β 4) (β 5) (β 6) (β 7) (β 8) (β 9) (β 10) (β 11) (β 12) (β 13) (β 14) (β 15) (β 16) (β 17) (xs (nI i + (nI 1)).toNatClampNeg) (K 11) (K 12) (K 13) (K 14) (I 10) (J 9) (J 12) (J 13) (J 14) (J 15) (J 16) hr) [30, 31, 36, 39, 40, 41, 42, 43] (pre_C rfl) (by decide) rfl (WW g hx α hm β I (upf (upf (upf (upf (upf (upf (upf (upf (upf (upf J 0 q.2.1) 4 q.2.2.1) 5 q.2.2.2.1) 6 q.2.2.2.2) 9 r.2.2.1) 12 r.2.2.2.1) 13 r.2.2.2.2.1) 14 r.2.2.2.2.2.1) 15 r.2.2.2.2.2.2.1) 16 r.2.2.2.2.2.2.2) (upf K 14 r.2.1) L C Mm) (pre_S (k := 49) rfl (by decide) rfl) 30 9 rfl rfl yq_X9_edgeValue rfl m_935 m_936 m_937 m_51 m_938 ⟨Nat.le_of_ble_eq_true rfl, Nat.le_of_ble_eq_true rfl⟩ rfl rfl hl.1 (Nat.le_of_ble_eq_true rfl) dL_law_859 ⟨Nat.le_of_ble_eq_true rfl, Nat.le_of_ble_eq_true rfl⟩ rfl (fun H locs hP hD hS => ?_)
  refine W.lcmp hx0 hb dL_law_862 ?_
  refine lv_if_eq (tgt := 918) hx0 hb dL_law_863 (by decide) (fun _ => ?_) (fun c_ => absurd (cmp_eq heq) c_)
  exact kk I (upf (upf (upf (upf (upf (upf (upf (upf (upf (upf J 0 q.2.1) 4 q.2.2.1) 5 q.2.2.2.1) 6 q.2.2.2.2) 9 r.2.2.1) 12 r.2.2.2.1) 13 r.2.2.2.2.1) 14 r.2.2.2.2.2.1) 15 r.2.2.2.2.2.2.1) 16 r.2.2.2.2.2.2.2) (upf K 14 r.2.1) L C Mm H locs hI2 hP hD hS
set_option maxHeartbeats 4000000 in
set_option maxRecDepth 100000 in
theorem law_taylorAtOne (pr : Pr_taylorAtOne) {g : GG} {p : Program} {l : Launch} {e : Env} {s : State} {m : MethodId} {below : List Frame} {meth : Method} {c : Code} {b Lx : Nat} {xs : Nat → Int32} {Q : State → Prop} (lc : LC g p s m c b Lx xs) {hx hm : Nat} {α β : Nat → Nat} {i : Nat} (hL : Lx ≤ 2048) (hi : i + 4 ≤ Lx) {I : Nat → Nat → Int32} {J : Nat → Nat → Int64} {K : Nat → Int32} {L : List Nat} {C : Nat → GC} {Mm : Nat → Nat → Int64} (hI : Inv I K L C) {H : Heap} {locs : List Loc} {ls : Array Slot} (hP : va_P (gD g) vwCl (WW g hx α hm β I J K L C Mm) H) (hD : va_D (fun q => s.heap.size ≤ q) (WW g hx α hm β I J K L C Mm)) (hS : va_S (fun q => s.heap.size ≤ q) s.heap H locs) (hl : lv_has ls 4 [(3, .int (nI i)), (2, .ref hm), (1, .ref hx), (0, .ref b)]) (kk : ∀ (I : Nat → Nat → Int32) (J : Nat → Nat → Int64) (K : Nat → Int32) (L : List Nat) (C : Nat → GC) (Mm : Nat → Nat → Int64) (H : Heap) (locs : List Loc), Inv I K L C → va_P (gD g) vwCl (WW g hx α hm β I J K L C Mm) H → va_D (fun q => s.heap.size ≤ q) (WW g hx α hm β I J K L C Mm) → va_S (fun q => s.heap.size ≤ q) s.heap H locs → W p l e room_1 s m #[Value.ref b] below meth c H locs 146 3014 Q (F0 m 918 ls [])) : W p l e room_1 s m #[Value.ref b] below meth c H locs 146 3014 Q (F0 m 868 ls []) := by
  obtain ⟨cx, hX, hbl⟩ := lc
  have hx0 := cx.1
  have hb := cx.2.1
  have hA : ∀ q : Nat, s.heap.size ≤ q → (fun q : Nat => s.heap.size ≤ q) q := fun _ h => h
  have hbA : ¬ (fun q : Nat => s.heap.size ≤ q) b := Nat.not_le.mpr hbl
  have hin : ∀ k : Nat, k < 4 → vp_in (nI i + nI k) Lx := fun k hk => by rw [nI_add]; exact vp_in_nI (by omega) (by omega)
  obtain ⟨q, r, hq, hr, heq, hI2⟩ := pr I J K L C Mm (xs (nI i + (nI 1)).toNatClampNeg) hI
  refine lv_aload_n hx0 hb dL_law_868 rfl (lv_at hl 2 rfl) ?_
  refine lv_aload_n hx0 hb dL_law_869 rfl (lv_at hl 3 rfl) ?_
  refine lv_iload_n hx0 hb dL_law_870 rfl (lv_at hl 0 rfl) ?_
  refine lv_iconst (v := (nI 1)) hx0 hb dL_law_871 (by decide) ?_
  refine lv_iadd hx0 hb dL_law_872 ?_
  refine va_sld hx0 hb hX hbl hbA hS (hin 1 (by omega)) dL_law_873 ?_
  refine w_callV cx hP hD hS hA (c_X8_taylorAtOne g l hx (α 0) (α 4) (α 8) (α 9) (α 11) (α 14) (α 21) (α 23) (α 26) (α 1) (α 2) (α 3) (α 15) (α 16) (α 17) (α 18) (α 19) (α 20) (α 24) (α 25) (xs (nI i + (nI 1)).toNatClampNeg) (K 0) (K 1) (I 0) (I 1) (I 2) (J 0) (J 4) (J 5) (J 6) (J 7) hq) [0, 1, 2, 3, 4, 15, 16, 20, 21, 24, 25, 26] (pre_C rfl) (by decide) rfl (WW g hx α hm β I (upf (upf (upf (upf (upf J 0 q.2.1) 4 q.2.2.1) 5 q.2.2.2.1) 6 q.2.2.2.2.1) 7 q.2.2.2.2.2) K L C Mm) (pre_S (k := 49) rfl (by decide) rfl) 0 8 rfl rfl yq_X8_taylorAtOne rfl m_608 m_609 m_610 m_42 m_611 ⟨Nat.le_of_ble_eq_true rfl, Nat.le_of_ble_eq_true rfl⟩ rfl rfl hl.1 (Nat.le_of_ble_eq_true rfl) dL_law_874 ⟨Nat.le_of_ble_eq_true rfl, Nat.le_of_ble_eq_true rfl⟩ rfl (fun H locs hP hD hS => ?_)
  refine lv_aload_n hx0 hb dL_law_877 rfl (lv_at hl 1 rfl) ?_
  refine lv_aload_n hx0 hb dL_law_878 rfl (lv_at hl 3 rfl) ?_
  refine lv_iload_n hx0 hb dL_law_879 rfl (lv_at hl 0 rfl) ?_
  refine lv_iconst (v := (nI 1)) hx0 hb dL_law_880 (by decide) ?_
  refine lv_iadd hx0 hb dL_law_881 ?_
  refine va_sld hx0 hb hX hbl hbA hS (hin 1 (by omega)) dL_law_882 ?_
  refine w_callV cx hP hD hS hA (c_X9_taylorAtOne g l hm (β 0) (β 1) (β 2) (β 3) (β 4) (β 5) (β 6) (β 7) (β 8) (β 9) (β 10) (β 11) (β 12) (β 13) (β 14) (β 15) (β 16) (β 17) (xs (nI i + (nI 1)).toNatClampNeg) (K 11) (K 12) (K 13) (K 14) (I 10) (J 9) (J 12) (J 13) (J 14) (J 15) (J 16) hr) [30, 31, 36, 39, 40, 41, 42, 43] (pre_C rfl) (by decide) rfl (WW g hx α hm β I (upf (upf (upf (upf (upf (upf (upf (upf (upf (upf (upf J 0 q.2.1) 4 q.2.2.1) 5 q.2.2.2.1) 6 q.2.2.2.2.1) 7 q.2.2.2.2.2) 9 r.2.2.1) 12 r.2.2.2.1) 13 r.2.2.2.2.1) 14 r.2.2.2.2.2.1) 15 r.2.2.2.2.2.2.1) 16 r.2.2.2.2.2.2.2) (upf K 14 r.2.1) L C Mm) (pre_S (k := 49) rfl (by decide) rfl) 30 9 rfl rfl yq_X9_taylorAtOne rfl m_939 m_940 m_941 m_51 m_942 ⟨Nat.le_of_ble_eq_true rfl, Nat.le_of_ble_eq_true rfl⟩ rfl rfl hl.1 (Nat.le_of_ble_eq_true rfl) dL_law_883 ⟨Nat.le_of_ble_eq_true rfl, Nat.le_of_ble_eq_true rfl⟩ rfl (fun H locs hP hD hS => ?_)
  refine W.lcmp hx0 hb dL_law_886 ?_
  refine lv_if_eq (tgt := 918) hx0 hb dL_law_887 (by decide) (fun _ => ?_) (fun c_ => absurd (cmp_eq heq) c_)
  exact kk I (upf (upf (upf (upf (upf (upf (upf (upf (upf (upf (upf J 0 q.2.1) 4 q.2.2.1) 5 q.2.2.2.1) 6 q.2.2.2.2.1) 7 q.2.2.2.2.2) 9 r.2.2.1) 12 r.2.2.2.1) 13 r.2.2.2.2.1) 14 r.2.2.2.2.2.1) 15 r.2.2.2.2.2.2.1) 16 r.2.2.2.2.2.2.2) (upf K 14 r.2.1) L C Mm H locs hI2 hP hD hS
set_option maxHeartbeats 4000000 in
set_option maxRecDepth 100000 in
theorem law_edgeDegree (pr : Pr_edgeDegree) {g : GG} {p : Program} {l : Launch} {e : Env} {s : State} {m : MethodId} {below : List Frame} {meth : Method} {c : Code} {b Lx : Nat} {xs : Nat → Int32} {Q : State → Prop} (lc : LC g p s m c b Lx xs) {hx hm : Nat} {α β : Nat → Nat} {i : Nat} (hL : Lx ≤ 2048) (hi : i + 4 ≤ Lx) {I : Nat → Nat → Int32} {J : Nat → Nat → Int64} {K : Nat → Int32} {L : List Nat} {C : Nat → GC} {Mm : Nat → Nat → Int64} (hI : Inv I K L C) {H : Heap} {locs : List Loc} {ls : Array Slot} (hP : va_P (gD g) vwCl (WW g hx α hm β I J K L C Mm) H) (hD : va_D (fun q => s.heap.size ≤ q) (WW g hx α hm β I J K L C Mm)) (hS : va_S (fun q => s.heap.size ≤ q) s.heap H locs) (hl : lv_has ls 4 [(3, .int (nI i)), (2, .ref hm), (1, .ref hx), (0, .ref b)]) (kk : ∀ (I : Nat → Nat → Int32) (J : Nat → Nat → Int64) (K : Nat → Int32) (L : List Nat) (C : Nat → GC) (Mm : Nat → Nat → Int64) (H : Heap) (locs : List Loc), Inv I K L C → va_P (gD g) vwCl (WW g hx α hm β I J K L C Mm) H → va_D (fun q => s.heap.size ≤ q) (WW g hx α hm β I J K L C Mm) → va_S (fun q => s.heap.size ≤ q) s.heap H locs → W p l e room_1 s m #[Value.ref b] below meth c H locs 146 3014 Q (F0 m 918 ls [])) : W p l e room_1 s m #[Value.ref b] below meth c H locs 146 3014 Q (F0 m 892 ls []) := by
  obtain ⟨cx, hX, hbl⟩ := lc
  have hx0 := cx.1
  have hb := cx.2.1
  have hA : ∀ q : Nat, s.heap.size ≤ q → (fun q : Nat => s.heap.size ≤ q) q := fun _ h => h
  have hbA : ¬ (fun q : Nat => s.heap.size ≤ q) b := Nat.not_le.mpr hbl
  have hin : ∀ k : Nat, k < 4 → vp_in (nI i + nI k) Lx := fun k hk => by rw [nI_add]; exact vp_in_nI (by omega) (by omega)
  obtain ⟨q, r, hq, hr, heq, hI2⟩ := pr I J K L C Mm  hI
  refine lv_aload_n hx0 hb dL_law_892 rfl (lv_at hl 2 rfl) ?_
  refine w_callV cx hP hD hS hA (c_X8_edgeDegree g l hx (α 0) (α 4) (α 8) (α 9) (α 11) (α 14) (α 21) (α 23) (α 26) (α 1) (α 2) (α 3) (α 15) (α 16) (α 17) (α 18) (α 19) (α 20) (α 24) (α 25) (K 0) (K 1) (I 0) (I 1) (I 2) (J 0) (J 4) (J 5) (J 6) hq) [0, 1, 2, 3, 4, 15, 16, 20, 21, 24, 25] (pre_C rfl) (by decide) rfl (WW g hx α hm β I (upf (upf (upf (upf J 0 q.2.1) 4 q.2.2.1) 5 q.2.2.2.1) 6 q.2.2.2.2) K L C Mm) (pre_S (k := 49) rfl (by decide) rfl) 0 8 rfl rfl yq_X8_edgeDegree rfl m_617 m_618 m_619 m_42 m_620 ⟨Nat.le_of_ble_eq_true rfl, Nat.le_of_ble_eq_true rfl⟩ rfl rfl hl.1 (Nat.le_of_ble_eq_true rfl) dL_law_893 ⟨Nat.le_of_ble_eq_true rfl, Nat.le_of_ble_eq_true rfl⟩ rfl (fun H locs hP hD hS => ?_)
  refine lv_aload_n hx0 hb dL_law_896 rfl (lv_at hl 1 rfl) ?_
  refine w_callV cx hP hD hS hA (c_X9_edgeDegree g l hm (β 0) (β 1) (β 2) (β 3) (β 4) (β 5) (β 6) (β 7) (β 8) (β 9) (β 10) (β 11) (β 12) (β 13) (β 14) (β 15) (β 16) (β 17) (K 11) (K 12) (K 13) (K 14) (I 10) (J 9) (J 12) (J 13) (J 14) (J 15) (J 16) hr) [30, 31, 36, 39, 40, 41, 42, 43] (pre_C rfl) (by decide) rfl (WW g hx α hm β I (upf (upf (upf (upf (upf (upf (upf (upf (upf (upf J 0 q.2.1) 4 q.2.2.1) 5 q.2.2.2.1) 6 q.2.2.2.2) 9 r.2.2.1) 12 r.2.2.2.1) 13 r.2.2.2.2.1) 14 r.2.2.2.2.2.1) 15 r.2.2.2.2.2.2.1) 16 r.2.2.2.2.2.2.2) (upf K 14 r.2.1) L C Mm) (pre_S (k := 49) rfl (by decide) rfl) 30 9 rfl rfl yq_X9_edgeDegree rfl m_943 m_944 m_945 m_51 m_946 ⟨Nat.le_of_ble_eq_true rfl, Nat.le_of_ble_eq_true rfl⟩ rfl rfl hl.1 (Nat.le_of_ble_eq_true rfl) dL_law_897 ⟨Nat.le_of_ble_eq_true rfl, Nat.le_of_ble_eq_true rfl⟩ rfl (fun H locs hP hD hS => ?_)
  refine lv_icmp_eq (tgt := 918) hx0 hb dL_law_900 (by decide) (fun _ => ?_) (fun c_ => absurd heq c_)
  exact kk I (upf (upf (upf (upf (upf (upf (upf (upf (upf (upf J 0 q.2.1) 4 q.2.2.1) 5 q.2.2.2.1) 6 q.2.2.2.2) 9 r.2.2.1) 12 r.2.2.2.1) 13 r.2.2.2.2.1) 14 r.2.2.2.2.2.1) 15 r.2.2.2.2.2.2.1) 16 r.2.2.2.2.2.2.2) (upf K 14 r.2.1) L C Mm H locs hI2 hP hD hS
set_option maxHeartbeats 4000000 in
set_option maxRecDepth 100000 in
theorem law_spanningTrees (pr : Pr_spanningTrees) {g : GG} {p : Program} {l : Launch} {e : Env} {s : State} {m : MethodId} {below : List Frame} {meth : Method} {c : Code} {b Lx : Nat} {xs : Nat → Int32} {Q : State → Prop} (lc : LC g p s m c b Lx xs) {hx hm : Nat} {α β : Nat → Nat} {i : Nat} (hL : Lx ≤ 2048) (hi : i + 4 ≤ Lx) {I : Nat → Nat → Int32} {J : Nat → Nat → Int64} {K : Nat → Int32} {L : List Nat} {C : Nat → GC} {Mm : Nat → Nat → Int64} (hI : Inv I K L C) {H : Heap} {locs : List Loc} {ls : Array Slot} (hP : va_P (gD g) vwCl (WW g hx α hm β I J K L C Mm) H) (hD : va_D (fun q => s.heap.size ≤ q) (WW g hx α hm β I J K L C Mm)) (hS : va_S (fun q => s.heap.size ≤ q) s.heap H locs) (hl : lv_has ls 4 [(3, .int (nI i)), (2, .ref hm), (1, .ref hx), (0, .ref b)]) (kk : ∀ (I : Nat → Nat → Int32) (J : Nat → Nat → Int64) (K : Nat → Int32) (L : List Nat) (C : Nat → GC) (Mm : Nat → Nat → Int64) (H : Heap) (locs : List Loc), Inv I K L C → va_P (gD g) vwCl (WW g hx α hm β I J K L C Mm) H → va_D (fun q => s.heap.size ≤ q) (WW g hx α hm β I J K L C Mm) → va_S (fun q => s.heap.size ≤ q) s.heap H locs → W p l e room_1 s m #[Value.ref b] below meth c H locs 146 3014 Q (F0 m 918 ls [])) : W p l e room_1 s m #[Value.ref b] below meth c H locs 146 3014 Q (F0 m 905 ls []) := by
  obtain ⟨cx, hX, hbl⟩ := lc
  have hx0 := cx.1
  have hb := cx.2.1
  have hA : ∀ q : Nat, s.heap.size ≤ q → (fun q : Nat => s.heap.size ≤ q) q := fun _ h => h
  have hbA : ¬ (fun q : Nat => s.heap.size ≤ q) b := Nat.not_le.mpr hbl
  have hin : ∀ k : Nat, k < 4 → vp_in (nI i + nI k) Lx := fun k hk => by rw [nI_add]; exact vp_in_nI (by omega) (by omega)
  obtain ⟨q, r, hq, hr, heq, hI2⟩ := pr I J K L C Mm  hI
  refine lv_aload_n hx0 hb dL_law_905 rfl (lv_at hl 2 rfl) ?_
  refine w_callV cx hP hD hS hA (c_X8_spanningTrees g l hx (α 0) (α 4) (α 8) (α 9) (α 11) (α 14) (α 21) (α 23) (α 26) (α 1) (α 2) (α 3) (α 12) (α 13) (K 0) (K 1) (I 0) (I 1) (I 2) (I 7) (I 8) hq) [0, 1, 2, 3, 4, 12, 13, 14] (pre_C rfl) (by decide) rfl (WW g hx α hm β (upf (upf I 7 q.2.1) 8 q.2.2) J K L C Mm) (pre_S (k := 49) rfl (by decide) rfl) 0 8 rfl rfl yq_X8_spanningTrees rfl m_625 m_626 m_627 m_42 m_628 ⟨Nat.le_of_ble_eq_true rfl, Nat.le_of_ble_eq_true rfl⟩ rfl rfl hl.1 (Nat.le_of_ble_eq_true rfl) dL_law_906 ⟨Nat.le_of_ble_eq_true rfl, Nat.le_of_ble_eq_true rfl⟩ rfl (fun H locs hP hD hS => ?_)
  refine lv_aload_n hx0 hb dL_law_909 rfl (lv_at hl 1 rfl) ?_
  refine w_callV cx hP hD hS hA (c_X9_spanningTrees g l hm (β 0) (β 1) (β 2) (β 3) (β 4) (β 5) (β 6) (β 7) (β 8) (β 9) (β 10) (β 11) (β 12) (β 13) (β 14) (β 15) (β 16) (β 17) (K 11) (K 12) (K 13) (K 14) (I 10) (J 9) (J 12) (J 13) (J 14) (J 15) (J 16) hr) [30, 31, 36, 39, 40, 41, 42, 43] (pre_C rfl) (by decide) rfl (WW g hx α hm β (upf (upf I 7 q.2.1) 8 q.2.2) (upf (upf (upf (upf (upf (upf J 9 r.2.2.1) 12 r.2.2.2.1) 13 r.2.2.2.2.1) 14 r.2.2.2.2.2.1) 15 r.2.2.2.2.2.2.1) 16 r.2.2.2.2.2.2.2) (upf K 14 r.2.1) L C Mm) (pre_S (k := 49) rfl (by decide) rfl) 30 9 rfl rfl yq_X9_spanningTrees rfl m_947 m_948 m_949 m_51 m_950 ⟨Nat.le_of_ble_eq_true rfl, Nat.le_of_ble_eq_true rfl⟩ rfl rfl hl.1 (Nat.le_of_ble_eq_true rfl) dL_law_910 ⟨Nat.le_of_ble_eq_true rfl, Nat.le_of_ble_eq_true rfl⟩ rfl (fun H locs hP hD hS => ?_)
  refine lv_icmp_eq (tgt := 918) hx0 hb dL_law_913 (by decide) (fun _ => ?_) (fun c_ => absurd heq c_)
  exact kk (upf (upf I 7 q.2.1) 8 q.2.2) (upf (upf (upf (upf (upf (upf J 9 r.2.2.1) 12 r.2.2.2.1) 13 r.2.2.2.2.1) 14 r.2.2.2.2.2.1) 15 r.2.2.2.2.2.2.1) 16 r.2.2.2.2.2.2.2) (upf K 14 r.2.1) L C Mm H locs hI2 hP hD hS
