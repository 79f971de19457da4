/-! texts -/
def rp : Nat → List Nat
  | 0 => []
  | i + 1 => rp i ++ [48, 45, 49, 59]
theorem rp_len : ∀ i, (rp i).length = 4 * i
  | 0 => rfl
  | i + 1 => by
    show (rp i ++ [48, 45, 49, 59]).length = 4 * (i + 1)
    rw [List.length_append, rp_len i]
    show 4 * i + 4 = _
    omega
theorem tl_243 {A : AG} {hs : List AG} : ∀ (m i : Nat) {S : QS}, i + m = 9 → RS A hs (rp i) S → ∃ S', wh b_L_texts_243 (nI i, S) = some S' ∧ RS A hs (rp 9) S' := by
  intro m
  induction m with
  | zero =>
    intro i S hi h
    obtain rfl : i = 9 := by omega
    refine ⟨S, wh_inr ?_, h⟩
    unfold b_L_texts_243
    rw [if_pos (show nI 9 ≤ nI 9 by decide)]
  | succ m ih =>
    intro i S hi h
    obtain ⟨S1, e1, h1⟩ := p_types h (808268091 : Int64) [59, 49, 45, 48, 0, 0, 0, 0] [48, 45, 49, 59] (by decide +kernel) rfl (by decide) (by rw [rp_len]; omega)
    obtain ⟨S2, e2, h2⟩ := ih (i + 1) (by omega) h1
    refine ⟨S2, wh_inl ?_ e2, h2⟩
    unfold b_L_texts_243
    rw [if_neg (show ¬ nI 9 ≤ nI i by rw [nle (by omega) (by omega)]; omega), bd_t e1, nI_add]
theorem tl_358 {A : AG} {hs : List AG} : ∀ (m i : Nat) {S : QS}, i + m = 9 → RS A hs (rp i) S → ∃ S', wh b_L_texts_358 (nI i, S) = some S' ∧ RS A hs (rp 9) S' := by
  intro m
  induction m with
  | zero =>
    intro i S hi h
    obtain rfl : i = 9 := by omega
    refine ⟨S, wh_inr ?_, h⟩
    unfold b_L_texts_358
    rw [if_pos (show nI 9 ≤ nI 9 by decide)]
  | succ m ih =>
    intro i S hi h
    obtain ⟨S1, e1, h1⟩ := p_types h (808268091 : Int64) [59, 49, 45, 48, 0, 0, 0, 0] [48, 45, 49, 59] (by decide +kernel) rfl (by decide) (by rw [rp_len]; omega)
    obtain ⟨S2, e2, h2⟩ := ih (i + 1) (by omega) h1
    refine ⟨S2, wh_inl ?_ e2, h2⟩
    unfold b_L_texts_358
    rw [if_neg (show ¬ nI 9 ≤ nI i by rw [nle (by omega) (by omega)]; omega), bd_t e1, nI_add]
theorem tw_go {A : AG} {hs : List AG} : ∀ (m : Nat) (t : List Nat) (S : QS), t.length + m = 60 → RS A hs t S → ∃ (S' : QS) (t' : List Nat), t'.length = 60 ∧ wh b_L_texts_305 S = some S' ∧ RS A hs t' S' := by
  intro m
  induction m with
  | zero =>
    intro t S hl h
    obtain ⟨S1, e1, h1⟩ := s_append_full h (c := 32) (by decide) (by omega)
    refine ⟨S1, t, by omega, wh_inr ?_, h1⟩
    unfold b_L_texts_305
    rw [bd_t e1, if_pos (show nI 4294967293 ≤ 0 by decide)]
  | succ m ih =>
    intro t S hl h
    obtain ⟨S1, e1, h1⟩ := s_append h (c := 32) (by decide) (by omega)
    obtain ⟨r, H⟩ := det_degree h.VG (nI 0)
    obtain ⟨S2, e2, h2⟩ := H _ _ _ h1
    obtain ⟨S', t', k1, k2, k3⟩ := ih (t ++ [32]) S2 (by rw [List.length_append]; show t.length + 1 + m = 60; omega) h2
    refine ⟨S', t', k1, wh_inl ?_ k2, k3⟩
    unfold b_L_texts_305
    rw [bd_t e1, if_neg (show ¬ nI (t.length + 1) ≤ 0 by rw [nle0 (by omega)]; omega), bd_t e2]
theorem tw_305 {A : AG} {hs : List AG} {t : List Nat} {S : QS} (hl : t.length ≤ 60) (h : RS A hs t S) : ∃ (S' : QS) (t' : List Nat), t'.length = 60 ∧ wh b_L_texts_305 S = some S' ∧ RS A hs t' S' := tw_go (60 - t.length) t S (by omega) h
set_option maxHeartbeats 4000000 in
set_option maxRecDepth 100000 in
theorem tx_356 {hs : List AG} {S : QS} (h : RS kg9 hs [] S) : ∃ S', t_L_texts_356 S = some (nI 1, S') := by
  obtain ⟨S0, e0, h0⟩ := tl_358 9 0 (by omega) h
  obtain ⟨S1, e1, h1⟩ := s_load_ok (A := kg9) (B := kg10) (t := (rp 9)) h0 vkg10 rfl (by decide +kernel)
  have h1 : RS kg10 _ [] S1 := h1
  obtain ⟨S2, e2, h2⟩ := ev_walks vkg10 (nI 2) kv71 _ _ _ h1
  have h2 : RS kg10 _ [] S2 := h2
  obtain ⟨S3, e3, h3⟩ := ev_walks vkg10 (nI 18) kv72 _ _ _ h2
  have h3 : RS kg10 _ [] S3 := h3
  obtain ⟨S4, e4, h4⟩ := s_addEdge_full h3 (u := 2) (w := 3) (b := false) (by decide) (by decide) (by decide) rfl
  have h4 : RS kg10 _ [] S4 := h4
  have e4 : o_addEdge (nI 2) (nI 3) (nI 1) S3 = some ((nI 4294967293), S4) := e4
  obtain ⟨S5, e5, h5⟩ := s_addEdge_no h4 (p1 := nI 2) (p2 := nI 2) (p3 := nI 1) (Or.inr (Or.inr (Or.inl rfl)))
  have h5 : RS kg10 _ [] S5 := h5
  obtain ⟨S6, e6, h6⟩ := ev_edgeDegree vkg10  kv73 _ _ _ h5
  have h6 : RS kg10 _ [] S6 := h6
  obtain ⟨S7, e7, h7⟩ := ev_spanningTrees vkg10  kv74 _ _ _ h6
  have h7 : RS kg10 _ [] S7 := h7
  obtain ⟨S8, e8, h8⟩ := ev_components vkg10  kv75 _ _ _ h7
  have h8 : RS kg10 _ [] S8 := h8
  refine ⟨S8, ?_⟩
  unfold t_L_texts_356
  rw [bd_t e0]
  rw [bd_t e1]
  rw [if_pos (by first | rfl | decide)]
  rw [bd_t e2]
  rw [if_pos (cmp_eq rfl)]
  rw [bd_t e3]
  rw [nm_s]
  rw [if_pos (cmp_eq rfl)]
  rw [bd_t e4]
  rw [if_pos (by first | rfl | decide)]
  rw [bd_t e5]
  rw [if_pos (by first | rfl | decide)]
  rw [bd_t e6]
  rw [if_pos (by first | rfl | decide)]
  rw [bd_t e7]
  rw [if_pos (by first | exact h00 | decide)]
  rw [bd_t e8]
  rw [if_pos (by first | rfl | decide)]
set_option maxHeartbeats 4000000 in
set_option maxRecDepth 100000 in
theorem tx_241 {hs : List AG} {S : QS} (h : RS kg9 hs [] S) : ∃ S', t_L_texts_241 S = some (nI 1, S') := by
  obtain ⟨S0, e0, h0⟩ := tl_243 9 0 (by omega) h
  obtain ⟨S1, e1, h1⟩ := p_types h0 (32 : Int64) [32, 0, 0, 0, 0, 0, 0, 0] [32] (by decide +kernel) rfl (by decide) (by decide)
  have h1 : RS kg9 _ ((rp 9) ++ [32]) S1 := h1
  obtain ⟨S2, e2, h2⟩ := p_types h1 (48 : Int64) [48, 0, 0, 0, 0, 0, 0, 0] [48] (by decide +kernel) rfl (by decide) (by decide)
  have h2 : RS kg9 _ (((rp 9) ++ [32]) ++ [48]) S2 := h2
  obtain ⟨S3, e3, h3⟩ := s_load_no (A := kg9) (t := (((rp 9) ++ [32]) ++ [48])) (c := nI 37) h2 (by decide +kernel)
  have h3 : RS kg9 _ (((rp 9) ++ [32]) ++ [48]) S3 := h3
  obtain ⟨S4, e4, h4⟩ := o_ec h3
  have h4 : RS kg9 _ (((rp 9) ++ [32]) ++ [48]) S4 := h4
  obtain ⟨S5, t5, l5, e5, h5⟩ := tw_305 (by decide) h4
  obtain ⟨S6, e6, h6⟩ := s_append_no h5 (p := nI 300) (Or.inr (by decide))
  have h6 : RS kg9 _ t5 S6 := h6
  obtain ⟨S7, e7, h7⟩ := s_append_full h6 (c := 48) (by decide) l5
  have h7 : RS kg9 _ t5 S7 := h7
  obtain ⟨S8, e8, h8⟩ := s_clear h7
  have h8 : RS kg9 _ [] S8 := h8
  obtain ⟨Sz, ez⟩ := tx_356 h8
  refine ⟨Sz, ?_⟩
  unfold t_L_texts_241
  rw [bd_t e0]
  rw [bd_t e1]
  rw [if_pos (by first | rfl | decide)]
  rw [bd_t e2]
  rw [if_pos (by first | rfl | decide)]
  rw [bd_t e3]
  rw [if_pos (by first | rfl | decide)]
  rw [bd_t e4]
  rw [if_pos (by first | exact h00 | decide)]
  rw [bd_t e5]
  rw [bd_t e6]
  rw [if_pos (by first | rfl | decide)]
  rw [bd_t e7]
  rw [if_pos (by first | rfl | decide)]
  rw [bd_t e8]
  rw [if_pos (show nI t5.length = (nI 60) by rw [l5])]
  exact ez
set_option maxHeartbeats 4000000 in
set_option maxRecDepth 100000 in
theorem tx_155 {hs : List AG} {S : QS} (h : RS kg9 hs [] S) : ∃ S', t_L_texts_155 S = some (nI 1, S') := by
  obtain ⟨S0, e0, h0⟩ := p_types h (12330 : Int64) [42, 48, 0, 0, 0, 0, 0, 0] [48, 42] (by decide +kernel) rfl (by decide) (by decide)
  have h0 : RS kg9 _ [48, 42] S0 := h0
  obtain ⟨S1, e1, h1⟩ := s_load_no (A := kg9) (t := [48, 42]) (c := nI 1) h0 (by decide +kernel)
  have h1 : RS kg9 _ [48, 42] S1 := h1
  obtain ⟨S2, e2, h2⟩ := s_clear h1
  have h2 : RS kg9 _ [] S2 := h2
  obtain ⟨S3, e3, h3⟩ := p_types h2 (808268064 : Int64) [32, 49, 45, 48, 0, 0, 0, 0] [48, 45, 49, 32] (by decide +kernel) rfl (by decide) (by decide)
  have h3 : RS kg9 _ [48, 45, 49, 32] S3 := h3
  obtain ⟨S4, e4, h4⟩ := s_load_no (A := kg9) (t := [48, 45, 49, 32]) (c := nI 4) h3 (by decide +kernel)
  have h4 : RS kg9 _ [48, 45, 49, 32] S4 := h4
  obtain ⟨S5, e5, h5⟩ := s_clear h4
  have h5 : RS kg9 _ [] S5 := h5
  obtain ⟨S6, e6, h6⟩ := p_types h5 (808268077 : Int64) [45, 49, 45, 48, 0, 0, 0, 0] [48, 45, 49, 45] (by decide +kernel) rfl (by decide) (by decide)
  have h6 : RS kg9 _ [48, 45, 49, 45] S6 := h6
  obtain ⟨S7, e7, h7⟩ := s_load_no (A := kg9) (t := [48, 45, 49, 45]) (c := nI 3) h6 (by decide +kernel)
  have h7 : RS kg9 _ [48, 45, 49, 45] S7 := h7
  obtain ⟨S8, e8, h8⟩ := s_clear h7
  have h8 : RS kg9 _ [] S8 := h8
  obtain ⟨Sz, ez⟩ := tx_241 h8
  refine ⟨Sz, ?_⟩
  unfold t_L_texts_155
  rw [bd_t e0]
  rw [if_pos (by first | rfl | decide)]
  rw [bd_t e1]
  rw [if_pos (by first | rfl | decide)]
  rw [bd_t e2]
  rw [if_pos (by first | rfl | decide)]
  rw [bd_t e3]
  rw [if_pos (by first | rfl | decide)]
  rw [bd_t e4]
  rw [if_pos (by first | rfl | decide)]
  rw [bd_t e5]
  rw [if_pos (by first | rfl | decide)]
  rw [bd_t e6]
  rw [if_pos (by first | rfl | decide)]
  rw [bd_t e7]
  rw [if_pos (by first | rfl | decide)]
  rw [bd_t e8]
  rw [if_pos (by first | rfl | decide)]
  exact ez
set_option maxHeartbeats 4000000 in
set_option maxRecDepth 100000 in
theorem tx_97 {hs : List AG} {S : QS} (h : RS kg9 hs [] S) : ∃ S', t_L_texts_97 S = some (nI 1, S') := by
  obtain ⟨S0, e0, h0⟩ := p_types h (808268859 : Int64) [59, 52, 45, 48, 0, 0, 0, 0] [48, 45, 52, 59] (by decide +kernel) rfl (by decide) (by decide)
  have h0 : RS kg9 _ [48, 45, 52, 59] S0 := h0
  obtain ⟨S1, e1, h1⟩ := s_load_no (A := kg9) (t := [48, 45, 52, 59]) (c := nI 2) h0 (by decide +kernel)
  have h1 : RS kg9 _ [48, 45, 52, 59] S1 := h1
  obtain ⟨S2, e2, h2⟩ := s_clear h1
  have h2 : RS kg9 _ [] S2 := h2
  obtain ⟨S3, e3, h3⟩ := p_types h2 (808267835 : Int64) [59, 48, 45, 48, 0, 0, 0, 0] [48, 45, 48, 59] (by decide +kernel) rfl (by decide) (by decide)
  have h3 : RS kg9 _ [48, 45, 48, 59] S3 := h3
  obtain ⟨S4, e4, h4⟩ := s_load_no (A := kg9) (t := [48, 45, 48, 59]) (c := nI 2) h3 (by decide +kernel)
  have h4 : RS kg9 _ [48, 45, 48, 59] S4 := h4
  obtain ⟨S5, e5, h5⟩ := s_clear h4
  have h5 : RS kg9 _ [] S5 := h5
  obtain ⟨Sz, ez⟩ := tx_155 h5
  refine ⟨Sz, ?_⟩
  unfold t_L_texts_97
  rw [bd_t e0]
  rw [if_pos (by first | rfl | decide)]
  rw [bd_t e1]
  rw [if_pos (by first | rfl | decide)]
  rw [bd_t e2]
  rw [if_pos (by first | rfl | decide)]
  rw [bd_t e3]
  rw [if_pos (by first | rfl | decide)]
  rw [bd_t e4]
  rw [if_pos (by first | rfl | decide)]
  rw [bd_t e5]
  rw [if_pos (by first | rfl | decide)]
  exact ez
set_option maxHeartbeats 4000000 in
set_option maxRecDepth 100000 in
theorem p_texts {A : AG} {hs : List AG} {S : QS} (h : RS A hs [] S) : ∃ S', f_L_texts S = some (nI 1, S') := by
  obtain ⟨S0, e0, h0⟩ := s_configure h (b := 4) (by decide) (by decide)
  have h0 : RS kg9 _ [] S0 := h0
  obtain ⟨S1, e1, h1⟩ := p_types h0 (3471485017785466418 : Int64) [50, 126, 49, 32, 59, 49, 45, 48] [48, 45, 49, 59, 32, 49, 126, 50] (by decide +kernel) rfl (by decide) (by decide)
  have h1 : RS kg9 _ [48, 45, 49, 59, 32, 49, 126, 50] S1 := h1
  obtain ⟨S2, e2, h2⟩ := p_types h1 (2322485432718211872 : Int64) [32, 59, 48, 45, 50, 32, 59, 32] [32, 59, 32, 50, 45, 48, 59, 32] (by decide +kernel) rfl (by decide) (by decide)
  have h2 : RS kg9 _ [48, 45, 49, 59, 32, 49, 126, 50, 32, 59, 32, 50, 45, 48, 59, 32] S2 := h2
  obtain ⟨S3, e3, h3⟩ := s_load_ok (A := kg9) (B := kg11) (t := [48, 45, 49, 59, 32, 49, 126, 50, 32, 59, 32, 50, 45, 48, 59, 32]) h2 vkg11 rfl (by decide +kernel)
  have h3 : RS kg11 _ [] S3 := h3
  obtain ⟨S4, e4, h4⟩ := o_ec h3
  have h4 : RS kg11 _ [] S4 := h4
  obtain ⟨S5, e5, h5⟩ := ev_headOf vkg11 (nI 2) kv76 _ _ _ h4
  have h5 : RS kg11 _ [] S5 := h5
  obtain ⟨S6, e6, h6⟩ := ev_headOf vkg11 (nI 5) kv77 _ _ _ h5
  have h6 : RS kg11 _ [] S6 := h6
  obtain ⟨S7, e7, h7⟩ := ev_signedWalks vkg11 (nI 3) kv78 _ _ _ h6
  have h7 : RS kg11 _ [] S7 := h7
  obtain ⟨S8, e8, h8⟩ := s_load_nil h7
  have h8 : RS kg9 _ [] S8 := h8
  obtain ⟨S9, e9, h9⟩ := o_ec h8
  have h9 : RS kg9 _ [] S9 := h9
  obtain ⟨S10, e10, h10⟩ := s_clear h9
  have h10 : RS kg9 _ [] S10 := h10
  obtain ⟨Sz, ez⟩ := tx_97 h10
  refine ⟨Sz, ?_⟩
  unfold f_L_texts
  rw [bd_t e0]
  rw [bd_t e1]
  rw [bd_t e2]
  rw [if_pos (by first | rfl | decide)]
  rw [bd_t e3]
  rw [if_pos (by first | rfl | decide)]
  rw [bd_t e4]
  rw [if_pos (by first | rfl | decide)]
  rw [bd_t e5]
  rw [if_pos (by first | rfl | decide)]
  rw [bd_t e6]
  rw [if_pos (by first | rfl | decide)]
  rw [bd_t e7]
  rw [if_pos (cmp_eq rfl)]
  rw [bd_t e8]
  rw [if_pos (by first | exact h00 | decide)]
  rw [bd_t e9]
  rw [if_pos (by first | exact h00 | decide)]
  rw [bd_t e10]
  rw [if_pos (by first | exact h00 | decide)]
  exact ez
