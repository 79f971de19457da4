/-! what is known by hand holds -/
set_option maxHeartbeats 4000000 in
set_option maxRecDepth 100000 in
theorem kn_776 {hs : List AG} {t : List Nat} {S : QS} (h : RS kg1 hs t S) : ∃ S', t_L_known_776 S = some (nI 1, S') := by
  obtain ⟨S0, e0, h0⟩ := s_configure h (b := 1) (by decide) (by decide)
  have h0 : RS kg0 _ t S0 := h0
  obtain ⟨S1, e1, h1⟩ := ev_vertexCoefficient vkg0 (nI 2) kv0 _ _ _ h0
  have h1 : RS kg0 _ t S1 := h1
  obtain ⟨S2, e2, h2⟩ := ev_bassCoefficient vkg0 (nI 0) kv1 _ _ _ h1
  have h2 : RS kg0 _ t S2 := h2
  obtain ⟨S3, e3, h3⟩ := ev_bassCoefficient vkg0 (nI 2) kv2 _ _ _ h2
  have h3 : RS kg0 _ t S3 := h3
  obtain ⟨S4, e4, h4⟩ := ev_spanningTrees vkg0  kv3 _ _ _ h3
  have h4 : RS kg0 _ t S4 := h4
  obtain ⟨S5, e5, h5⟩ := ev_components vkg0  kv4 _ _ _ h4
  have h5 : RS kg0 _ t S5 := h5
  obtain ⟨S6, e6, h6⟩ := s_addEdge_no h5 (p1 := nI 0) (p2 := nI 0) (p3 := nI 1) (Or.inr (Or.inr (Or.inl rfl)))
  have h6 : RS kg0 _ t S6 := h6
  obtain ⟨S7, e7, h7⟩ := ev_isBalanced vkg0  kv5 _ _ _ h6
  have h7 : RS kg0 _ t S7 := h7
  refine ⟨S7, ?_⟩
  unfold t_L_known_776
  rw [bd_t e0]
  rw [bd_t e1]
  rw [if_pos (cmp_eq rfl)]
  rw [bd_t e2]
  rw [if_pos (cmp_eq rfl)]
  rw [bd_t e3]
  rw [if_pos (cmp_eq rfl)]
  rw [bd_t e4]
  rw [if_pos (by first | rfl | decide)]
  rw [bd_t e5]
  rw [if_pos (by first | rfl | decide)]
  rw [bd_t e6]
  rw [if_pos (by first | rfl | decide)]
  rw [bd_t e7]
  rw [if_pos (by first | rfl | decide)]
set_option maxHeartbeats 4000000 in
set_option maxRecDepth 100000 in
theorem kn_624 {hs : List AG} {t : List Nat} {S : QS} (h : RS kg1 hs t S) : ∃ S', t_L_known_624 S = some (nI 1, S') := by
  obtain ⟨S0, e0, h0⟩ := ev_walks vkg1 (nI 2) kv6 _ _ _ h
  have h0 : RS kg1 _ t S0 := h0
  obtain ⟨S1, e1, h1⟩ := ev_signedWalks vkg1 (nI 2) kv7 _ _ _ h0
  have h1 : RS kg1 _ t S1 := h1
  obtain ⟨S2, e2, h2⟩ := ev_primes vkg1 (nI 2) kv8 _ _ _ h1
  have h2 : RS kg1 _ t S2 := h2
  obtain ⟨S3, e3, h3⟩ := ev_positivePrimes vkg1 (nI 2) kv9 _ _ _ h2
  have h3 : RS kg1 _ t S3 := h3
  obtain ⟨S4, e4, h4⟩ := ev_taylorAtOne vkg1 (nI 2) kv10 _ _ _ h3
  have h4 : RS kg1 _ t S4 := h4
  obtain ⟨S5, e5, h5⟩ := ev_taylorAtOne vkg1 (nI 1) kv11 _ _ _ h4
  have h5 : RS kg1 _ t S5 := h5
  obtain ⟨S6, e6, h6⟩ := ev_spanningTrees vkg1  kv12 _ _ _ h5
  have h6 : RS kg1 _ t S6 := h6
  obtain ⟨S7, e7, h7⟩ := ev_period vkg1  kv13 _ _ _ h6
  have h7 : RS kg1 _ t S7 := h7
  obtain ⟨S8, e8, h8⟩ := ev_edgeDegree vkg1  kv14 _ _ _ h7
  have h8 : RS kg1 _ t S8 := h8
  obtain ⟨S9, e9, h9⟩ := ev_primeEdge vkg1 (nI 2) (nI 4) (nI 0) kv15 _ _ _ h8
  have h9 : RS kg1 _ t S9 := h9
  obtain ⟨S10, e10, h10⟩ := ev_primeEdge vkg1 (nI 2) (nI 4) (nI 1) kv16 _ _ _ h9
  have h10 : RS kg1 _ t S10 := h10
  obtain ⟨S11, e11, h11⟩ := ev_primeSign vkg1 (nI 2) (nI 1) kv17 _ _ _ h10
  have h11 : RS kg1 _ t S11 := h11
  obtain ⟨S12, e12, h12⟩ := ev_primeSign vkg1 (nI 2) (nI 0) kv18 _ _ _ h11
  have h12 : RS kg1 _ t S12 := h12
  obtain ⟨S13, e13, h13⟩ := ev_primeEdge vkg1 (nI 2) (nI 6) (nI 1) kv19 _ _ _ h12
  have h13 : RS kg1 _ t S13 := h13
  obtain ⟨Sz, ez⟩ := kn_776 h13
  refine ⟨Sz, ?_⟩
  unfold t_L_known_624
  rw [bd_t e0]
  rw [if_pos (cmp_eq rfl)]
  rw [bd_t e1]
  rw [if_pos (cmp_eq rfl)]
  rw [bd_t e2]
  rw [if_pos (cmp_eq rfl)]
  rw [bd_t e3]
  rw [if_pos (cmp_eq rfl)]
  rw [bd_t e4]
  rw [if_pos (cmp_eq rfl)]
  rw [bd_t e5]
  rw [if_pos (cmp_eq rfl)]
  rw [bd_t e6]
  rw [if_pos (by first | rfl | decide)]
  rw [bd_t e7]
  rw [if_pos (by first | rfl | decide)]
  rw [bd_t e8]
  rw [if_pos (by first | rfl | decide)]
  rw [bd_t e9]
  rw [if_pos (by first | rfl | decide)]
  rw [bd_t e10]
  rw [if_pos (by first | rfl | decide)]
  rw [bd_t e11]
  rw [if_pos (by first | rfl | decide)]
  rw [bd_t e12]
  rw [if_pos (by first | rfl | decide)]
  rw [bd_t e13]
  rw [if_pos (by first | rfl | decide)]
  exact ez
set_option maxHeartbeats 4000000 in
set_option maxRecDepth 100000 in
theorem kn_511 {hs : List AG} {t : List Nat} {S : QS} (h : RS kg5 hs t S) : ∃ S', t_L_known_511 S = some (nI 1, S') := by
  obtain ⟨S0, e0, h0⟩ := s_configure h (b := 2) (by decide) (by decide)
  have h0 : RS kg2 _ t S0 := h0
  obtain ⟨S1, e1, h1⟩ := s_addEdge h0 (u := 0) (w := 1) (b := false) (by decide) (by decide) (by decide) (by decide)
  have h1 : RS kg3 _ t S1 := h1
  have e1 : o_addEdge (nI 0) (nI 1) (nI 1) S0 = some ((nI 0), S1) := e1
  obtain ⟨S2, e2, h2⟩ := s_addEdge h1 (u := 0) (w := 1) (b := true) (by decide) (by decide) (by decide) (by decide)
  have h2 : RS kg4 _ t S2 := h2
  have e2 : o_addEdge (nI 0) (nI 1) (nI 4294967295) S1 = some ((nI 1), S2) := e2
  obtain ⟨S3, e3, h3⟩ := s_addEdge h2 (u := 0) (w := 1) (b := false) (by decide) (by decide) (by decide) (by decide)
  have h3 : RS kg1 _ t S3 := h3
  have e3 : o_addEdge (nI 0) (nI 1) (nI 1) S2 = some ((nI 2), S3) := e3
  obtain ⟨S4, e4, h4⟩ := ev_edgeCoefficient vkg1 (nI 2) kv20 _ _ _ h3
  have h4 : RS kg1 _ t S4 := h4
  obtain ⟨S5, e5, h5⟩ := ev_edgeCoefficient vkg1 (nI 4) kv21 _ _ _ h4
  have h5 : RS kg1 _ t S5 := h5
  obtain ⟨S6, e6, h6⟩ := ev_edgeCoefficient vkg1 (nI 6) kv22 _ _ _ h5
  have h6 : RS kg1 _ t S6 := h6
  obtain ⟨S7, e7, h7⟩ := ev_vertexCoefficient vkg1 (nI 2) kv23 _ _ _ h6
  have h7 : RS kg1 _ t S7 := h7
  obtain ⟨S8, e8, h8⟩ := ev_vertexCoefficient vkg1 (nI 4) kv24 _ _ _ h7
  have h8 : RS kg1 _ t S8 := h8
  obtain ⟨S9, e9, h9⟩ := ev_edgeValue vkg1 (nI 2) kv25 _ _ _ h8
  have h9 : RS kg1 _ t S9 := h9
  obtain ⟨Sz, ez⟩ := kn_624 h9
  refine ⟨Sz, ?_⟩
  unfold t_L_known_511
  rw [bd_t e0]
  rw [bd_t e1]
  rw [if_pos (by first | exact h00 | decide)]
  rw [bd_t e2]
  rw [if_pos (by first | rfl | decide)]
  rw [bd_t e3]
  rw [if_pos (by first | rfl | decide)]
  rw [bd_t e4]
  rw [if_pos (cmp_eq rfl)]
  rw [bd_t e5]
  rw [if_pos (cmp_eq rfl)]
  rw [bd_t e6]
  rw [if_pos (cmp_eq rfl)]
  rw [bd_t e7]
  rw [if_pos (cmp_eq rfl)]
  rw [bd_t e8]
  rw [if_pos (cmp_eq rfl)]
  rw [bd_t e9]
  rw [if_pos (cmp_eq rfl)]
  exact ez
set_option maxHeartbeats 4000000 in
set_option maxRecDepth 100000 in
theorem kn_413 {hs : List AG} {t : List Nat} {S : QS} (h : RS kg5 hs t S) : ∃ S', t_L_known_413 S = some (nI 1, S') := by
  obtain ⟨S0, e0, h0⟩ := ev_primeEdge vkg5 (nI 3) (nI 0) (nI 0) kv26 _ _ _ h
  have h0 : RS kg5 _ t S0 := h0
  obtain ⟨S1, e1, h1⟩ := ev_primeEdge vkg5 (nI 3) (nI 0) (nI 1) kv27 _ _ _ h0
  have h1 : RS kg5 _ t S1 := h1
  obtain ⟨S2, e2, h2⟩ := ev_primeEdge vkg5 (nI 3) (nI 0) (nI 2) kv28 _ _ _ h1
  have h2 : RS kg5 _ t S2 := h2
  obtain ⟨S3, e3, h3⟩ := ev_primeEdge vkg5 (nI 3) (nI 1) (nI 0) kv29 _ _ _ h2
  have h3 : RS kg5 _ t S3 := h3
  obtain ⟨S4, e4, h4⟩ := ev_primeEdge vkg5 (nI 3) (nI 1) (nI 1) kv30 _ _ _ h3
  have h4 : RS kg5 _ t S4 := h4
  obtain ⟨S5, e5, h5⟩ := ev_primeEdge vkg5 (nI 3) (nI 1) (nI 2) kv31 _ _ _ h4
  have h5 : RS kg5 _ t S5 := h5
  obtain ⟨S6, e6, h6⟩ := ev_primeSign vkg5 (nI 3) (nI 1) kv32 _ _ _ h5
  have h6 : RS kg5 _ t S6 := h6
  obtain ⟨S7, e7, h7⟩ := ev_primeEdge vkg5 (nI 3) (nI 2) (nI 0) kv33 _ _ _ h6
  have h7 : RS kg5 _ t S7 := h7
  obtain ⟨S8, e8, h8⟩ := ev_primeSign vkg5 (nI 3) (nI 2) kv34 _ _ _ h7
  have h8 : RS kg5 _ t S8 := h8
  obtain ⟨Sz, ez⟩ := kn_511 h8
  refine ⟨Sz, ?_⟩
  unfold t_L_known_413
  rw [bd_t e0]
  rw [if_pos (by first | exact h00 | decide)]
  rw [bd_t e1]
  rw [if_pos (by first | rfl | decide)]
  rw [bd_t e2]
  rw [if_pos (by first | rfl | decide)]
  rw [bd_t e3]
  rw [if_pos (by first | rfl | decide)]
  rw [bd_t e4]
  rw [if_pos (by first | rfl | decide)]
  rw [bd_t e5]
  rw [if_pos (by first | rfl | decide)]
  rw [bd_t e6]
  rw [if_pos (by first | rfl | decide)]
  rw [bd_t e7]
  rw [if_pos (by first | rfl | decide)]
  rw [bd_t e8]
  rw [if_pos (by first | exact h00 | decide)]
  exact ez
set_option maxHeartbeats 4000000 in
set_option maxRecDepth 100000 in
theorem kn_278 {hs : List AG} {t : List Nat} {S : QS} (h : RS kg5 hs t S) : ∃ S', t_L_known_278 S = some (nI 1, S') := by
  obtain ⟨S0, e0, h0⟩ := ev_walks vkg5 (nI 3) kv35 _ _ _ h
  have h0 : RS kg5 _ t S0 := h0
  obtain ⟨S1, e1, h1⟩ := ev_signedWalks vkg5 (nI 3) kv36 _ _ _ h0
  have h1 : RS kg5 _ t S1 := h1
  obtain ⟨S2, e2, h2⟩ := ev_coverWalks vkg5 (nI 3) kv37 _ _ _ h1
  have h2 : RS kg5 _ t S2 := h2
  obtain ⟨S3, e3, h3⟩ := ev_coverWalks vkg5 (nI 6) kv38 _ _ _ h2
  have h3 : RS kg5 _ t S3 := h3
  obtain ⟨S4, e4, h4⟩ := ev_primes vkg5 (nI 3) kv39 _ _ _ h3
  have h4 : RS kg5 _ t S4 := h4
  obtain ⟨S5, e5, h5⟩ := ev_positivePrimes vkg5 (nI 3) kv40 _ _ _ h4
  have h5 : RS kg5 _ t S5 := h5
  obtain ⟨S6, e6, h6⟩ := ev_primes vkg5 (nI 6) kv41 _ _ _ h5
  have h6 : RS kg5 _ t S6 := h6
  obtain ⟨S7, e7, h7⟩ := ev_girth vkg5  kv42 _ _ _ h6
  have h7 : RS kg5 _ t S7 := h7
  obtain ⟨S8, e8, h8⟩ := ev_period vkg5  kv43 _ _ _ h7
  have h8 : RS kg5 _ t S8 := h8
  obtain ⟨S9, e9, h9⟩ := ev_spanningTrees vkg5  kv44 _ _ _ h8
  have h9 : RS kg5 _ t S9 := h9
  obtain ⟨S10, e10, h10⟩ := ev_isBalanced vkg5  kv45 _ _ _ h9
  have h10 : RS kg5 _ t S10 := h10
  obtain ⟨S11, e11, h11⟩ := ev_taylorAtOne vkg5 (nI 1) kv46 _ _ _ h10
  have h11 : RS kg5 _ t S11 := h11
  obtain ⟨S12, e12, h12⟩ := ev_taylorAtOne vkg5 (nI 2) kv47 _ _ _ h11
  have h12 : RS kg5 _ t S12 := h12
  obtain ⟨Sz, ez⟩ := kn_413 h12
  refine ⟨Sz, ?_⟩
  unfold t_L_known_278
  rw [bd_t e0]
  rw [if_pos (cmp_eq rfl)]
  rw [bd_t e1]
  rw [if_pos (cmp_eq rfl)]
  rw [bd_t e2]
  rw [if_pos (cmp_eq rfl)]
  rw [bd_t e3]
  rw [if_pos (cmp_eq rfl)]
  rw [bd_t e4]
  rw [if_pos (cmp_eq rfl)]
  rw [bd_t e5]
  rw [if_pos (cmp_eq rfl)]
  rw [bd_t e6]
  rw [if_pos (cmp_eq rfl)]
  rw [bd_t e7]
  rw [if_pos (by first | rfl | decide)]
  rw [bd_t e8]
  rw [if_pos (by first | rfl | decide)]
  rw [bd_t e9]
  rw [if_pos (by first | rfl | decide)]
  rw [bd_t e10]
  rw [if_pos (by first | exact h00 | decide)]
  rw [bd_t e11]
  rw [if_pos (cmp_eq rfl)]
  rw [bd_t e12]
  rw [if_pos (cmp_eq rfl)]
  exact ez
set_option maxHeartbeats 4000000 in
set_option maxRecDepth 100000 in
theorem kn_159 {hs : List AG} {t : List Nat} {S : QS} (h : RS kg5 hs t S) : ∃ S', t_L_known_159 S = some (nI 1, S') := by
  obtain ⟨S0, e0, h0⟩ := ev_edgeCoefficient vkg5 (nI 3) kv48 _ _ _ h
  have h0 : RS kg5 _ t S0 := h0
  obtain ⟨S1, e1, h1⟩ := ev_edgeCoefficient vkg5 (nI 6) kv49 _ _ _ h0
  have h1 : RS kg5 _ t S1 := h1
  obtain ⟨S2, e2, h2⟩ := ev_edgeCoefficient vkg5 (nI 9) kv50 _ _ _ h1
  have h2 : RS kg5 _ t S2 := h2
  obtain ⟨S3, e3, h3⟩ := ev_signedCoefficient vkg5 (nI 3) kv51 _ _ _ h2
  have h3 : RS kg5 _ t S3 := h3
  obtain ⟨S4, e4, h4⟩ := ev_zetaCoefficient vkg5 (nI 12) kv52 _ _ _ h3
  have h4 : RS kg5 _ t S4 := h4
  obtain ⟨S5, e5, h5⟩ := ev_zetaCoefficient vkg5 (nI 11) kv53 _ _ _ h4
  have h5 : RS kg5 _ t S5 := h5
  obtain ⟨S6, e6, h6⟩ := ev_edgeValue vkg5 (nI 2) kv54 _ _ _ h5
  have h6 : RS kg5 _ t S6 := h6
  obtain ⟨S7, e7, h7⟩ := ev_edgeValue vkg5 (nI 4294967295) kv55 _ _ _ h6
  have h7 : RS kg5 _ t S7 := h7
  obtain ⟨S8, e8, h8⟩ := ev_edgeValue vkg5 (nI 4294967294) kv56 _ _ _ h7
  have h8 : RS kg5 _ t S8 := h8
  obtain ⟨S9, e9, h9⟩ := ev_edgeValue vkg5 (nI 0) kv57 _ _ _ h8
  have h9 : RS kg5 _ t S9 := h9
  obtain ⟨Sz, ez⟩ := kn_278 h9
  refine ⟨Sz, ?_⟩
  unfold t_L_known_159
  rw [bd_t e0]
  rw [if_pos (cmp_eq rfl)]
  rw [bd_t e1]
  rw [if_pos (cmp_eq rfl)]
  rw [bd_t e2]
  rw [if_pos (cmp_eq rfl)]
  rw [bd_t e3]
  rw [if_pos (cmp_eq rfl)]
  rw [bd_t e4]
  rw [if_pos (cmp_eq rfl)]
  rw [bd_t e5]
  rw [if_pos (cmp_eq rfl)]
  rw [bd_t e6]
  rw [if_pos (cmp_eq rfl)]
  rw [bd_t e7]
  rw [if_pos (cmp_eq rfl)]
  rw [bd_t e8]
  rw [if_pos (cmp_eq rfl)]
  rw [bd_t e9]
  rw [if_pos (cmp_eq rfl)]
  exact ez
set_option maxHeartbeats 4000000 in
set_option maxRecDepth 100000 in
theorem kn_110 {hs : List AG} {t : List Nat} {S : QS} (h : RS kg8 hs t S) : ∃ S', t_L_known_110 S = some (nI 1, S') := by
  obtain ⟨S0, e0, h0⟩ := s_addEdge h (u := 0) (w := 1) (b := false) (by decide) (by decide) (by decide) (by decide)
  have h0 : RS kg6 _ t S0 := h0
  have e0 : o_addEdge (nI 0) (nI 1) (nI 1) S = some ((nI 0), S0) := e0
  obtain ⟨S1, e1, h1⟩ := s_addEdge h0 (u := 2) (w := 1) (b := false) (by decide) (by decide) (by decide) (by decide)
  have h1 : RS kg7 _ t S1 := h1
  have e1 : o_addEdge (nI 2) (nI 1) (nI 1) S0 = some ((nI 1), S1) := e1
  obtain ⟨S2, e2, h2⟩ := ev_spanningTrees vkg7  kv58 _ _ _ h1
  have h2 : RS kg7 _ t S2 := h2
  obtain ⟨S3, e3, h3⟩ := ev_rank vkg7  kv59 _ _ _ h2
  have h3 : RS kg7 _ t S3 := h3
  obtain ⟨S4, e4, h4⟩ := s_addEdge h3 (u := 2) (w := 0) (b := true) (by decide) (by decide) (by decide) (by decide)
  have h4 : RS kg5 _ t S4 := h4
  have e4 : o_addEdge (nI 2) (nI 0) (nI 4294967295) S3 = some ((nI 2), S4) := e4
  obtain ⟨Sz, ez⟩ := kn_159 h4
  refine ⟨Sz, ?_⟩
  unfold t_L_known_110
  rw [bd_t e0]
  rw [if_pos (by first | exact h00 | decide)]
  rw [bd_t e1]
  rw [if_pos (by first | rfl | decide)]
  rw [bd_t e2]
  rw [if_pos (by first | rfl | decide)]
  rw [bd_t e3]
  rw [if_pos (by first | exact h00 | decide)]
  rw [bd_t e4]
  rw [if_pos (by first | rfl | decide)]
  exact ez
set_option maxHeartbeats 4000000 in
set_option maxRecDepth 100000 in
theorem p_known {A : AG} {hs : List AG} {t : List Nat} {S : QS} (h : RS A hs t S) : ∃ S', f_L_known S = some (nI 1, S') := by
  obtain ⟨S0, e0, h0⟩ := s_configure h (b := 3) (by decide) (by decide)
  have h0 : RS kg8 _ t S0 := h0
  obtain ⟨S1, e1, h1⟩ := ev_girth vkg8  kv60 _ _ _ h0
  have h1 : RS kg8 _ t S1 := h1
  obtain ⟨S2, e2, h2⟩ := ev_period vkg8  kv61 _ _ _ h1
  have h2 : RS kg8 _ t S2 := h2
  obtain ⟨S3, e3, h3⟩ := ev_edgeCoefficient vkg8 (nI 0) kv62 _ _ _ h2
  have h3 : RS kg8 _ t S3 := h3
  obtain ⟨S4, e4, h4⟩ := ev_vertexCoefficient vkg8 (nI 6) kv63 _ _ _ h3
  have h4 : RS kg8 _ t S4 := h4
  obtain ⟨S5, e5, h5⟩ := ev_bassCoefficient vkg8 (nI 0) kv64 _ _ _ h4
  have h5 : RS kg8 _ t S5 := h5
  obtain ⟨S6, e6, h6⟩ := ev_bassCoefficient vkg8 (nI 2) kv65 _ _ _ h5
  have h6 : RS kg8 _ t S6 := h6
  obtain ⟨S7, e7, h7⟩ := ev_edgeDegree vkg8  kv66 _ _ _ h6
  have h7 : RS kg8 _ t S7 := h7
  obtain ⟨S8, e8, h8⟩ := ev_isBalanced vkg8  kv67 _ _ _ h7
  have h8 : RS kg8 _ t S8 := h8
  obtain ⟨S9, e9, h9⟩ := ev_components vkg8  kv68 _ _ _ h8
  have h9 : RS kg8 _ t S9 := h9
  obtain ⟨S10, e10, h10⟩ := ev_rank vkg8  kv69 _ _ _ h9
  have h10 : RS kg8 _ t S10 := h10
  obtain ⟨S11, e11, h11⟩ := ev_walks vkg8 (nI 18) kv70 _ _ _ h10
  have h11 : RS kg8 _ t S11 := h11
  obtain ⟨Sz, ez⟩ := kn_110 h11
  refine ⟨Sz, ?_⟩
  unfold f_L_known
  rw [bd_t e0]
  rw [bd_t e1]
  rw [if_pos (by first | rfl | decide)]
  rw [bd_t e2]
  rw [if_pos (by first | rfl | decide)]
  rw [bd_t e3]
  rw [if_pos (cmp_eq rfl)]
  rw [bd_t e4]
  rw [if_pos (cmp_eq rfl)]
  rw [bd_t e5]
  rw [if_pos (cmp_eq rfl)]
  rw [bd_t e6]
  rw [if_pos (cmp_eq rfl)]
  rw [bd_t e7]
  rw [if_pos (by first | exact h00 | decide)]
  rw [bd_t e8]
  rw [if_pos (by first | rfl | decide)]
  rw [bd_t e9]
  rw [if_pos (by first | rfl | decide)]
  rw [bd_t e10]
  rw [if_pos (by first | exact h00 | decide)]
  rw [bd_t e11]
  rw [if_pos (cmp_eq rfl)]
  exact ez
