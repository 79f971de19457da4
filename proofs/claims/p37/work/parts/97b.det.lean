/-! a query's answer hangs on the graph alone; it is what the kernel computes on a bare state -/
set_option maxHeartbeats 1000000 in
theorem det_headOf {A : AG} (hA : VG A) (p1 : Int32) : ∃ r : Int32, ∀ (hs : List AG) (t : List Nat) (S : QS), RS A hs t S → ∃ S', o_headOf p1 S = some (r, S') ∧ RS A hs t S' := by
  obtain ⟨q0, r0, h1, h2, h3, -⟩ := pr_headOf (gI (S0 A).1 A) (gJ (S0 A).2.1) (gQ (S0 A).2.2.1) L0 (S0 A).2.2.2.2.1 (S0 A).2.2.2.2.2 p1 (gInv (S0_RS hA).1)
  refine ⟨r0, fun hs t S hS => ?_⟩
  obtain ⟨q, r, a1, a2, a3, -⟩ := pr_headOf (gI S.1 A) (gJ S.2.1) (gQ S.2.2.1) L0 S.2.2.2.2.1 S.2.2.2.2.2 p1 (gInv hS.1)
  have e : r = r0 := Option.some.inj (a2.symm.trans h2)
  subst e
  refine ⟨(S.1, S.2.1, S.2.2.1, S.2.2.2.1, S.2.2.2.2.1, S.2.2.2.2.2), ?_, hS.1, hS.2.1, hS.2.2⟩
  unfold o_headOf
  rw [show f_X8_headOf p1 (S.2.2.1 0) (S.2.2.1 1) (S.1 0) (S.1 1) = some q from a1, ← a3]
  rfl
theorem ev_headOf {A : AG} (hA : VG A) (p1 : Int32) {r : Int32} (he : (e_X8_headOf p1 (nI A.1) (nI A.2.length) (cF A) (cS A)).map (fun q => q) = some r) : ∀ (hs : List AG) (t : List Nat) (S : QS), RS A hs t S → ∃ S', o_headOf p1 S = some (r, S') ∧ RS A hs t S' := by
  obtain ⟨r1, H⟩ := det_headOf hA p1
  obtain ⟨S1, h1, -⟩ := H [] [] (S0 A) (S0_RS hA)
  obtain ⟨q, hq, rfl⟩ := Option.map_eq_some_iff.mp he
  have h2 := le_f_X8_headOf _ _ _ _ _ _ hq
  unfold o_headOf at h1
  rw [show f_X8_headOf p1 ((S0 A).2.2.1 0) ((S0 A).2.2.1 1) ((S0 A).1 0) ((S0 A).1 1) = some q from h2] at h1
  have h3 : q = r1 := congrArg Prod.fst (Option.some.inj h1)
  rw [h3]; exact H
set_option maxHeartbeats 1000000 in
theorem det_follows {A : AG} (hA : VG A) (p1 : Int32) (p2 : Int32) : ∃ r : Int32, ∀ (hs : List AG) (t : List Nat) (S : QS), RS A hs t S → ∃ S', o_follows p1 p2 S = some (r, S') ∧ RS A hs t S' := by
  obtain ⟨q0, r0, h1, h2, h3, -⟩ := pr_follows (gI (S0 A).1 A) (gJ (S0 A).2.1) (gQ (S0 A).2.2.1) L0 (S0 A).2.2.2.2.1 (S0 A).2.2.2.2.2 p1 p2 (gInv (S0_RS hA).1)
  refine ⟨r0, fun hs t S hS => ?_⟩
  obtain ⟨q, r, a1, a2, a3, -⟩ := pr_follows (gI S.1 A) (gJ S.2.1) (gQ S.2.2.1) L0 S.2.2.2.2.1 S.2.2.2.2.2 p1 p2 (gInv hS.1)
  have e : r = r0 := Option.some.inj (a2.symm.trans h2)
  subst e
  refine ⟨(S.1, S.2.1, S.2.2.1, S.2.2.2.1, S.2.2.2.2.1, S.2.2.2.2.2), ?_, hS.1, hS.2.1, hS.2.2⟩
  unfold o_follows
  rw [show f_X8_follows p1 p2 (S.2.2.1 0) (S.2.2.1 1) (S.1 0) (S.1 1) = some q from a1, ← a3]
  rfl
theorem ev_follows {A : AG} (hA : VG A) (p1 : Int32) (p2 : Int32) {r : Int32} (he : (e_X8_follows p1 p2 (nI A.1) (nI A.2.length) (cF A) (cS A)).map (fun q => q) = some r) : ∀ (hs : List AG) (t : List Nat) (S : QS), RS A hs t S → ∃ S', o_follows p1 p2 S = some (r, S') ∧ RS A hs t S' := by
  obtain ⟨r1, H⟩ := det_follows hA p1 p2
  obtain ⟨S1, h1, -⟩ := H [] [] (S0 A) (S0_RS hA)
  obtain ⟨q, hq, rfl⟩ := Option.map_eq_some_iff.mp he
  have h2 := le_f_X8_follows _ _ _ _ _ _ _ hq
  unfold o_follows at h1
  rw [show f_X8_follows p1 p2 ((S0 A).2.2.1 0) ((S0 A).2.2.1 1) ((S0 A).1 0) ((S0 A).1 1) = some q from h2] at h1
  have h3 : q = r1 := congrArg Prod.fst (Option.some.inj h1)
  rw [h3]; exact H
set_option maxHeartbeats 1000000 in
theorem det_degree {A : AG} (hA : VG A) (p1 : Int32) : ∃ r : Int32, ∀ (hs : List AG) (t : List Nat) (S : QS), RS A hs t S → ∃ S', o_degree p1 S = some (r, S') ∧ RS A hs t S' := by
  obtain ⟨q0, r0, h1, h2, h3, -⟩ := pr_degree (gI (S0 A).1 A) (gJ (S0 A).2.1) (gQ (S0 A).2.2.1) L0 (S0 A).2.2.2.2.1 (S0 A).2.2.2.2.2 p1 (gInv (S0_RS hA).1)
  refine ⟨r0, fun hs t S hS => ?_⟩
  obtain ⟨q, r, a1, a2, a3, -⟩ := pr_degree (gI S.1 A) (gJ S.2.1) (gQ S.2.2.1) L0 S.2.2.2.2.1 S.2.2.2.2.2 p1 (gInv hS.1)
  have e : r = r0 := Option.some.inj (a2.symm.trans h2)
  subst e
  refine ⟨(S.1, S.2.1, S.2.2.1, S.2.2.2.1, S.2.2.2.2.1, S.2.2.2.2.2), ?_, hS.1, hS.2.1, hS.2.2⟩
  unfold o_degree
  rw [show f_X8_degree p1 (S.2.2.1 0) (S.2.2.1 1) (S.1 0) (S.1 1) = some q from a1, ← a3]
  rfl
theorem ev_degree {A : AG} (hA : VG A) (p1 : Int32) {r : Int32} (he : (e_X8_degree p1 (nI A.1) (nI A.2.length) (cF A) (cS A)).map (fun q => q) = some r) : ∀ (hs : List AG) (t : List Nat) (S : QS), RS A hs t S → ∃ S', o_degree p1 S = some (r, S') ∧ RS A hs t S' := by
  obtain ⟨r1, H⟩ := det_degree hA p1
  obtain ⟨S1, h1, -⟩ := H [] [] (S0 A) (S0_RS hA)
  obtain ⟨q, hq, rfl⟩ := Option.map_eq_some_iff.mp he
  have h2 := le_f_X8_degree _ _ _ _ _ _ hq
  unfold o_degree at h1
  rw [show f_X8_degree p1 ((S0 A).2.2.1 0) ((S0 A).2.2.1 1) ((S0 A).1 0) ((S0 A).1 1) = some q from h2] at h1
  have h3 : q = r1 := congrArg Prod.fst (Option.some.inj h1)
  rw [h3]; exact H
set_option maxHeartbeats 1000000 in
theorem det_components {A : AG} (hA : VG A) : ∃ r : Int32, ∀ (hs : List AG) (t : List Nat) (S : QS), RS A hs t S → ∃ S', o_components  S = some (r, S') ∧ RS A hs t S' := by
  obtain ⟨q0, r0, h1, h2, h3, -⟩ := pr_components (gI (S0 A).1 A) (gJ (S0 A).2.1) (gQ (S0 A).2.2.1) L0 (S0 A).2.2.2.2.1 (S0 A).2.2.2.2.2  (gInv (S0_RS hA).1)
  refine ⟨r0.1, fun hs t S hS => ?_⟩
  obtain ⟨q, r, a1, a2, a3, -⟩ := pr_components (gI S.1 A) (gJ S.2.1) (gQ S.2.2.1) L0 S.2.2.2.2.1 S.2.2.2.2.2  (gInv hS.1)
  have e : r = r0 := Option.some.inj (a2.symm.trans h2)
  subst e
  refine ⟨((upf ((upf (S.1) 7 q.2.1)) 8 q.2.2), S.2.1, S.2.2.1, S.2.2.2.1, S.2.2.2.2.1, S.2.2.2.2.2), ?_, hS.1, hS.2.1, hS.2.2⟩
  unfold o_components
  rw [show f_X8_components (S.2.2.1 0) (S.2.2.1 1) (S.1 0) (S.1 1) (S.1 2) (S.1 7) (S.1 8) = some q from a1, ← a3]
  rfl
theorem ev_components {A : AG} (hA : VG A) {r : Int32} (he : (e_X8_components (nI A.1) (nI A.2.length) (cF A) (cS A) (cN A) z3 z3).map (fun q => q.1) = some r) : ∀ (hs : List AG) (t : List Nat) (S : QS), RS A hs t S → ∃ S', o_components  S = some (r, S') ∧ RS A hs t S' := by
  obtain ⟨r1, H⟩ := det_components hA 
  obtain ⟨S1, h1, -⟩ := H [] [] (S0 A) (S0_RS hA)
  obtain ⟨q, hq, rfl⟩ := Option.map_eq_some_iff.mp he
  have h2 := le_f_X8_components _ _ _ _ _ _ _ _ hq
  unfold o_components at h1
  rw [show f_X8_components ((S0 A).2.2.1 0) ((S0 A).2.2.1 1) ((S0 A).1 0) ((S0 A).1 1) ((S0 A).1 2) ((S0 A).1 7) ((S0 A).1 8) = some q from h2] at h1
  have h3 : q.1 = r1 := congrArg Prod.fst (Option.some.inj h1)
  rw [h3]; exact H
set_option maxHeartbeats 1000000 in
theorem det_rank {A : AG} (hA : VG A) : ∃ r : Int32, ∀ (hs : List AG) (t : List Nat) (S : QS), RS A hs t S → ∃ S', o_rank  S = some (r, S') ∧ RS A hs t S' := by
  obtain ⟨q0, r0, h1, h2, h3, -⟩ := pr_rank (gI (S0 A).1 A) (gJ (S0 A).2.1) (gQ (S0 A).2.2.1) L0 (S0 A).2.2.2.2.1 (S0 A).2.2.2.2.2  (gInv (S0_RS hA).1)
  refine ⟨r0.1, fun hs t S hS => ?_⟩
  obtain ⟨q, r, a1, a2, a3, -⟩ := pr_rank (gI S.1 A) (gJ S.2.1) (gQ S.2.2.1) L0 S.2.2.2.2.1 S.2.2.2.2.2  (gInv hS.1)
  have e : r = r0 := Option.some.inj (a2.symm.trans h2)
  subst e
  refine ⟨((upf ((upf (S.1) 7 q.2.1)) 8 q.2.2), S.2.1, S.2.2.1, S.2.2.2.1, S.2.2.2.2.1, S.2.2.2.2.2), ?_, hS.1, hS.2.1, hS.2.2⟩
  unfold o_rank
  rw [show f_X8_rank (S.2.2.1 0) (S.2.2.1 1) (S.1 0) (S.1 1) (S.1 2) (S.1 7) (S.1 8) = some q from a1, ← a3]
  rfl
theorem ev_rank {A : AG} (hA : VG A) {r : Int32} (he : (e_X8_rank (nI A.1) (nI A.2.length) (cF A) (cS A) (cN A) z3 z3).map (fun q => q.1) = some r) : ∀ (hs : List AG) (t : List Nat) (S : QS), RS A hs t S → ∃ S', o_rank  S = some (r, S') ∧ RS A hs t S' := by
  obtain ⟨r1, H⟩ := det_rank hA 
  obtain ⟨S1, h1, -⟩ := H [] [] (S0 A) (S0_RS hA)
  obtain ⟨q, hq, rfl⟩ := Option.map_eq_some_iff.mp he
  have h2 := le_f_X8_rank _ _ _ _ _ _ _ _ hq
  unfold o_rank at h1
  rw [show f_X8_rank ((S0 A).2.2.1 0) ((S0 A).2.2.1 1) ((S0 A).1 0) ((S0 A).1 1) ((S0 A).1 2) ((S0 A).1 7) ((S0 A).1 8) = some q from h2] at h1
  have h3 : q.1 = r1 := congrArg Prod.fst (Option.some.inj h1)
  rw [h3]; exact H
set_option maxHeartbeats 1000000 in
theorem det_isBalanced {A : AG} (hA : VG A) : ∃ r : Int32, ∀ (hs : List AG) (t : List Nat) (S : QS), RS A hs t S → ∃ S', o_isBalanced  S = some (r, S') ∧ RS A hs t S' := by
  obtain ⟨q0, r0, h1, h2, h3, -⟩ := pr_isBalanced (gI (S0 A).1 A) (gJ (S0 A).2.1) (gQ (S0 A).2.2.1) L0 (S0 A).2.2.2.2.1 (S0 A).2.2.2.2.2  (gInv (S0_RS hA).1)
  refine ⟨r0, fun hs t S hS => ?_⟩
  obtain ⟨q, r, a1, a2, a3, -⟩ := pr_isBalanced (gI S.1 A) (gJ S.2.1) (gQ S.2.2.1) L0 S.2.2.2.2.1 S.2.2.2.2.2  (gInv hS.1)
  have e : r = r0 := Option.some.inj (a2.symm.trans h2)
  subst e
  refine ⟨((upf ((upf (S.1) 7 q.2.1)) 8 q.2.2), S.2.1, S.2.2.1, S.2.2.2.1, S.2.2.2.2.1, S.2.2.2.2.2), ?_, hS.1, hS.2.1, hS.2.2⟩
  unfold o_isBalanced
  rw [show f_X8_isBalanced (S.2.2.1 0) (S.2.2.1 1) (S.1 0) (S.1 1) (S.1 2) (S.1 7) (S.1 8) = some q from a1, ← a3]
  rfl
theorem ev_isBalanced {A : AG} (hA : VG A) {r : Int32} (he : (e_X8_isBalanced (nI A.1) (nI A.2.length) (cF A) (cS A) (cN A) z3 z3).map (fun q => q.1) = some r) : ∀ (hs : List AG) (t : List Nat) (S : QS), RS A hs t S → ∃ S', o_isBalanced  S = some (r, S') ∧ RS A hs t S' := by
  obtain ⟨r1, H⟩ := det_isBalanced hA 
  obtain ⟨S1, h1, -⟩ := H [] [] (S0 A) (S0_RS hA)
  obtain ⟨q, hq, rfl⟩ := Option.map_eq_some_iff.mp he
  have h2 := le_f_X8_isBalanced _ _ _ _ _ _ _ _ hq
  unfold o_isBalanced at h1
  rw [show f_X8_isBalanced ((S0 A).2.2.1 0) ((S0 A).2.2.1 1) ((S0 A).1 0) ((S0 A).1 1) ((S0 A).1 2) ((S0 A).1 7) ((S0 A).1 8) = some q from h2] at h1
  have h3 : q.1 = r1 := congrArg Prod.fst (Option.some.inj h1)
  rw [h3]; exact H
set_option maxHeartbeats 1000000 in
theorem det_walks {A : AG} (hA : VG A) (p1 : Int32) : ∃ r : Int64, ∀ (hs : List AG) (t : List Nat) (S : QS), RS A hs t S → ∃ S', o_walks p1 S = some (r, S') ∧ RS A hs t S' := by
  obtain ⟨q0, r0, h1, h2, h3, -⟩ := pr_walks (gI (S0 A).1 A) (gJ (S0 A).2.1) (gQ (S0 A).2.2.1) L0 (S0 A).2.2.2.2.1 (S0 A).2.2.2.2.2 p1 (gInv (S0_RS hA).1)
  refine ⟨r0.1, fun hs t S hS => ?_⟩
  obtain ⟨q, r, a1, a2, a3, -⟩ := pr_walks (gI S.1 A) (gJ S.2.1) (gQ S.2.2.1) L0 S.2.2.2.2.1 S.2.2.2.2.2 p1 (gInv hS.1)
  have e : r = r0 := Option.some.inj (a2.symm.trans h2)
  subst e
  refine ⟨(S.1, (upf ((upf ((upf (S.2.1) 0 q.2.1)) 4 q.2.2.1)) 5 q.2.2.2), S.2.2.1, S.2.2.2.1, S.2.2.2.2.1, S.2.2.2.2.2), ?_, hS.1, hS.2.1, hS.2.2⟩
  unfold o_walks
  rw [show f_X8_walks p1 (S.2.2.1 0) (S.2.2.1 1) (S.1 0) (S.1 1) (S.1 2) (S.2.1 0) (S.2.1 4) (S.2.1 5) = some q from a1, ← a3]
  rfl
theorem ev_walks {A : AG} (hA : VG A) (p1 : Int32) {r : Int64} (he : (e_X8_walks p1 (nI A.1) (nI A.2.length) (cF A) (cS A) (cN A) z6 z6 z6).map (fun q => q.1) = some r) : ∀ (hs : List AG) (t : List Nat) (S : QS), RS A hs t S → ∃ S', o_walks p1 S = some (r, S') ∧ RS A hs t S' := by
  obtain ⟨r1, H⟩ := det_walks hA p1
  obtain ⟨S1, h1, -⟩ := H [] [] (S0 A) (S0_RS hA)
  obtain ⟨q, hq, rfl⟩ := Option.map_eq_some_iff.mp he
  have h2 := le_f_X8_walks _ _ _ _ _ _ _ _ _ _ hq
  unfold o_walks at h1
  rw [show f_X8_walks p1 ((S0 A).2.2.1 0) ((S0 A).2.2.1 1) ((S0 A).1 0) ((S0 A).1 1) ((S0 A).1 2) ((S0 A).2.1 0) ((S0 A).2.1 4) ((S0 A).2.1 5) = some q from h2] at h1
  have h3 : q.1 = r1 := congrArg Prod.fst (Option.some.inj h1)
  rw [h3]; exact H
set_option maxHeartbeats 1000000 in
theorem det_signedWalks {A : AG} (hA : VG A) (p1 : Int32) : ∃ r : Int64, ∀ (hs : List AG) (t : List Nat) (S : QS), RS A hs t S → ∃ S', o_signedWalks p1 S = some (r, S') ∧ RS A hs t S' := by
  obtain ⟨q0, r0, h1, h2, h3, -⟩ := pr_signedWalks (gI (S0 A).1 A) (gJ (S0 A).2.1) (gQ (S0 A).2.2.1) L0 (S0 A).2.2.2.2.1 (S0 A).2.2.2.2.2 p1 (gInv (S0_RS hA).1)
  refine ⟨r0.1, fun hs t S hS => ?_⟩
  obtain ⟨q, r, a1, a2, a3, -⟩ := pr_signedWalks (gI S.1 A) (gJ S.2.1) (gQ S.2.2.1) L0 S.2.2.2.2.1 S.2.2.2.2.2 p1 (gInv hS.1)
  have e : r = r0 := Option.some.inj (a2.symm.trans h2)
  subst e
  refine ⟨(S.1, (upf ((upf ((upf (S.2.1) 1 q.2.1)) 4 q.2.2.1)) 5 q.2.2.2), S.2.2.1, S.2.2.2.1, S.2.2.2.2.1, S.2.2.2.2.2), ?_, hS.1, hS.2.1, hS.2.2⟩
  unfold o_signedWalks
  rw [show f_X8_signedWalks p1 (S.2.2.1 0) (S.2.2.1 1) (S.1 0) (S.1 1) (S.1 2) (S.2.1 1) (S.2.1 4) (S.2.1 5) = some q from a1, ← a3]
  rfl
theorem ev_signedWalks {A : AG} (hA : VG A) (p1 : Int32) {r : Int64} (he : (e_X8_signedWalks p1 (nI A.1) (nI A.2.length) (cF A) (cS A) (cN A) z6 z6 z6).map (fun q => q.1) = some r) : ∀ (hs : List AG) (t : List Nat) (S : QS), RS A hs t S → ∃ S', o_signedWalks p1 S = some (r, S') ∧ RS A hs t S' := by
  obtain ⟨r1, H⟩ := det_signedWalks hA p1
  obtain ⟨S1, h1, -⟩ := H [] [] (S0 A) (S0_RS hA)
  obtain ⟨q, hq, rfl⟩ := Option.map_eq_some_iff.mp he
  have h2 := le_f_X8_signedWalks _ _ _ _ _ _ _ _ _ _ hq
  unfold o_signedWalks at h1
  rw [show f_X8_signedWalks p1 ((S0 A).2.2.1 0) ((S0 A).2.2.1 1) ((S0 A).1 0) ((S0 A).1 1) ((S0 A).1 2) ((S0 A).2.1 1) ((S0 A).2.1 4) ((S0 A).2.1 5) = some q from h2] at h1
  have h3 : q.1 = r1 := congrArg Prod.fst (Option.some.inj h1)
  rw [h3]; exact H
set_option maxHeartbeats 1000000 in
theorem det_coverWalks {A : AG} (hA : VG A) (p1 : Int32) : ∃ r : Int64, ∀ (hs : List AG) (t : List Nat) (S : QS), RS A hs t S → ∃ S', o_coverWalks p1 S = some (r, S') ∧ RS A hs t S' := by
  obtain ⟨q0, r0, h1, h2, h3, -⟩ := pr_coverWalks (gI (S0 A).1 A) (gJ (S0 A).2.1) (gQ (S0 A).2.2.1) L0 (S0 A).2.2.2.2.1 (S0 A).2.2.2.2.2 p1 (gInv (S0_RS hA).1)
  refine ⟨r0.1, fun hs t S hS => ?_⟩
  obtain ⟨q, r, a1, a2, a3, -⟩ := pr_coverWalks (gI S.1 A) (gJ S.2.1) (gQ S.2.2.1) L0 S.2.2.2.2.1 S.2.2.2.2.2 p1 (gInv hS.1)
  have e : r = r0 := Option.some.inj (a2.symm.trans h2)
  subst e
  refine ⟨(S.1, (upf ((upf ((upf ((upf (S.2.1) 0 q.2.1)) 1 q.2.2.1)) 4 q.2.2.2.1)) 5 q.2.2.2.2), S.2.2.1, S.2.2.2.1, S.2.2.2.2.1, S.2.2.2.2.2), ?_, hS.1, hS.2.1, hS.2.2⟩
  unfold o_coverWalks
  rw [show f_X8_coverWalks p1 (S.2.2.1 0) (S.2.2.1 1) (S.1 0) (S.1 1) (S.1 2) (S.2.1 0) (S.2.1 1) (S.2.1 4) (S.2.1 5) = some q from a1, ← a3]
  rfl
theorem ev_coverWalks {A : AG} (hA : VG A) (p1 : Int32) {r : Int64} (he : (e_X8_coverWalks p1 (nI A.1) (nI A.2.length) (cF A) (cS A) (cN A) z6 z6 z6 z6).map (fun q => q.1) = some r) : ∀ (hs : List AG) (t : List Nat) (S : QS), RS A hs t S → ∃ S', o_coverWalks p1 S = some (r, S') ∧ RS A hs t S' := by
  obtain ⟨r1, H⟩ := det_coverWalks hA p1
  obtain ⟨S1, h1, -⟩ := H [] [] (S0 A) (S0_RS hA)
  obtain ⟨q, hq, rfl⟩ := Option.map_eq_some_iff.mp he
  have h2 := le_f_X8_coverWalks _ _ _ _ _ _ _ _ _ _ _ hq
  unfold o_coverWalks at h1
  rw [show f_X8_coverWalks p1 ((S0 A).2.2.1 0) ((S0 A).2.2.1 1) ((S0 A).1 0) ((S0 A).1 1) ((S0 A).1 2) ((S0 A).2.1 0) ((S0 A).2.1 1) ((S0 A).2.1 4) ((S0 A).2.1 5) = some q from h2] at h1
  have h3 : q.1 = r1 := congrArg Prod.fst (Option.some.inj h1)
  rw [h3]; exact H
set_option maxHeartbeats 1000000 in
theorem det_primes {A : AG} (hA : VG A) (p1 : Int32) : ∃ r : Int64, ∀ (hs : List AG) (t : List Nat) (S : QS), RS A hs t S → ∃ S', o_primes p1 S = some (r, S') ∧ RS A hs t S' := by
  obtain ⟨q0, r0, h1, h2, h3, -⟩ := pr_primes (gI (S0 A).1 A) (gJ (S0 A).2.1) (gQ (S0 A).2.2.1) L0 (S0 A).2.2.2.2.1 (S0 A).2.2.2.2.2 p1 (gInv (S0_RS hA).1)
  refine ⟨r0.1, fun hs t S hS => ?_⟩
  obtain ⟨q, r, a1, a2, a3, -⟩ := pr_primes (gI S.1 A) (gJ S.2.1) (gQ S.2.2.1) L0 S.2.2.2.2.1 S.2.2.2.2.2 p1 (gInv hS.1)
  have e : r = r0 := Option.some.inj (a2.symm.trans h2)
  subst e
  refine ⟨(S.1, (upf ((upf ((upf ((upf (S.2.1) 0 q.2.1)) 2 q.2.2.1)) 4 q.2.2.2.1)) 5 q.2.2.2.2), S.2.2.1, S.2.2.2.1, S.2.2.2.2.1, S.2.2.2.2.2), ?_, hS.1, hS.2.1, hS.2.2⟩
  unfold o_primes
  rw [show f_X8_primes p1 (S.2.2.1 0) (S.2.2.1 1) (S.1 0) (S.1 1) (S.1 2) (S.2.1 0) (S.2.1 2) (S.2.1 4) (S.2.1 5) = some q from a1, ← a3]
  rfl
theorem ev_primes {A : AG} (hA : VG A) (p1 : Int32) {r : Int64} (he : (e_X8_primes p1 (nI A.1) (nI A.2.length) (cF A) (cS A) (cN A) z6 z6 z6 z6).map (fun q => q.1) = some r) : ∀ (hs : List AG) (t : List Nat) (S : QS), RS A hs t S → ∃ S', o_primes p1 S = some (r, S') ∧ RS A hs t S' := by
  obtain ⟨r1, H⟩ := det_primes hA p1
  obtain ⟨S1, h1, -⟩ := H [] [] (S0 A) (S0_RS hA)
  obtain ⟨q, hq, rfl⟩ := Option.map_eq_some_iff.mp he
  have h2 := le_f_X8_primes _ _ _ _ _ _ _ _ _ _ _ hq
  unfold o_primes at h1
  rw [show f_X8_primes p1 ((S0 A).2.2.1 0) ((S0 A).2.2.1 1) ((S0 A).1 0) ((S0 A).1 1) ((S0 A).1 2) ((S0 A).2.1 0) ((S0 A).2.1 2) ((S0 A).2.1 4) ((S0 A).2.1 5) = some q from h2] at h1
  have h3 : q.1 = r1 := congrArg Prod.fst (Option.some.inj h1)
  rw [h3]; exact H
set_option maxHeartbeats 1000000 in
theorem det_positivePrimes {A : AG} (hA : VG A) (p1 : Int32) : ∃ r : Int64, ∀ (hs : List AG) (t : List Nat) (S : QS), RS A hs t S → ∃ S', o_positivePrimes p1 S = some (r, S') ∧ RS A hs t S' := by
  obtain ⟨q0, r0, h1, h2, h3, -⟩ := pr_positivePrimes (gI (S0 A).1 A) (gJ (S0 A).2.1) (gQ (S0 A).2.2.1) L0 (S0 A).2.2.2.2.1 (S0 A).2.2.2.2.2 p1 (gInv (S0_RS hA).1)
  refine ⟨r0.1, fun hs t S hS => ?_⟩
  obtain ⟨q, r, a1, a2, a3, -⟩ := pr_positivePrimes (gI S.1 A) (gJ S.2.1) (gQ S.2.2.1) L0 S.2.2.2.2.1 S.2.2.2.2.2 p1 (gInv hS.1)
  have e : r = r0 := Option.some.inj (a2.symm.trans h2)
  subst e
  refine ⟨(S.1, (upf ((upf ((upf ((upf ((upf ((upf (S.2.1) 0 q.2.1)) 1 q.2.2.1)) 2 q.2.2.2.1)) 3 q.2.2.2.2.1)) 4 q.2.2.2.2.2.1)) 5 q.2.2.2.2.2.2), S.2.2.1, S.2.2.2.1, S.2.2.2.2.1, S.2.2.2.2.2), ?_, hS.1, hS.2.1, hS.2.2⟩
  unfold o_positivePrimes
  rw [show f_X8_positivePrimes p1 (S.2.2.1 0) (S.2.2.1 1) (S.1 0) (S.1 1) (S.1 2) (S.2.1 0) (S.2.1 1) (S.2.1 2) (S.2.1 3) (S.2.1 4) (S.2.1 5) = some q from a1, ← a3]
  rfl
theorem ev_positivePrimes {A : AG} (hA : VG A) (p1 : Int32) {r : Int64} (he : (e_X8_positivePrimes p1 (nI A.1) (nI A.2.length) (cF A) (cS A) (cN A) z6 z6 z6 z6 z6 z6).map (fun q => q.1) = some r) : ∀ (hs : List AG) (t : List Nat) (S : QS), RS A hs t S → ∃ S', o_positivePrimes p1 S = some (r, S') ∧ RS A hs t S' := by
  obtain ⟨r1, H⟩ := det_positivePrimes hA p1
  obtain ⟨S1, h1, -⟩ := H [] [] (S0 A) (S0_RS hA)
  obtain ⟨q, hq, rfl⟩ := Option.map_eq_some_iff.mp he
  have h2 := le_f_X8_positivePrimes _ _ _ _ _ _ _ _ _ _ _ _ _ hq
  unfold o_positivePrimes at h1
  rw [show f_X8_positivePrimes p1 ((S0 A).2.2.1 0) ((S0 A).2.2.1 1) ((S0 A).1 0) ((S0 A).1 1) ((S0 A).1 2) ((S0 A).2.1 0) ((S0 A).2.1 1) ((S0 A).2.1 2) ((S0 A).2.1 3) ((S0 A).2.1 4) ((S0 A).2.1 5) = some q from h2] at h1
  have h3 : q.1 = r1 := congrArg Prod.fst (Option.some.inj h1)
  rw [h3]; exact H
set_option maxHeartbeats 1000000 in
theorem det_girth {A : AG} (hA : VG A) : ∃ r : Int32, ∀ (hs : List AG) (t : List Nat) (S : QS), RS A hs t S → ∃ S', o_girth  S = some (r, S') ∧ RS A hs t S' := by
  obtain ⟨q0, r0, h1, h2, h3, -⟩ := pr_girth (gI (S0 A).1 A) (gJ (S0 A).2.1) (gQ (S0 A).2.2.1) L0 (S0 A).2.2.2.2.1 (S0 A).2.2.2.2.2  (gInv (S0_RS hA).1)
  refine ⟨r0.1, fun hs t S hS => ?_⟩
  obtain ⟨q, r, a1, a2, a3, -⟩ := pr_girth (gI S.1 A) (gJ S.2.1) (gQ S.2.2.1) L0 S.2.2.2.2.1 S.2.2.2.2.2  (gInv hS.1)
  have e : r = r0 := Option.some.inj (a2.symm.trans h2)
  subst e
  refine ⟨(S.1, (upf ((upf ((upf ((upf (S.2.1) 0 q.2.1)) 2 q.2.2.1)) 4 q.2.2.2.1)) 5 q.2.2.2.2), S.2.2.1, S.2.2.2.1, S.2.2.2.2.1, S.2.2.2.2.2), ?_, hS.1, hS.2.1, hS.2.2⟩
  unfold o_girth
  rw [show f_X8_girth (S.2.2.1 0) (S.2.2.1 1) (S.1 0) (S.1 1) (S.1 2) (S.2.1 0) (S.2.1 2) (S.2.1 4) (S.2.1 5) = some q from a1, ← a3]
  rfl
theorem ev_girth {A : AG} (hA : VG A) {r : Int32} (he : (e_X8_girth (nI A.1) (nI A.2.length) (cF A) (cS A) (cN A) z6 z6 z6 z6).map (fun q => q.1) = some r) : ∀ (hs : List AG) (t : List Nat) (S : QS), RS A hs t S → ∃ S', o_girth  S = some (r, S') ∧ RS A hs t S' := by
  obtain ⟨r1, H⟩ := det_girth hA 
  obtain ⟨S1, h1, -⟩ := H [] [] (S0 A) (S0_RS hA)
  obtain ⟨q, hq, rfl⟩ := Option.map_eq_some_iff.mp he
  have h2 := le_f_X8_girth _ _ _ _ _ _ _ _ _ _ hq
  unfold o_girth at h1
  rw [show f_X8_girth ((S0 A).2.2.1 0) ((S0 A).2.2.1 1) ((S0 A).1 0) ((S0 A).1 1) ((S0 A).1 2) ((S0 A).2.1 0) ((S0 A).2.1 2) ((S0 A).2.1 4) ((S0 A).2.1 5) = some q from h2] at h1
  have h3 : q.1 = r1 := congrArg Prod.fst (Option.some.inj h1)
  rw [h3]; exact H
set_option maxHeartbeats 1000000 in
theorem det_period {A : AG} (hA : VG A) : ∃ r : Int32, ∀ (hs : List AG) (t : List Nat) (S : QS), RS A hs t S → ∃ S', o_period  S = some (r, S') ∧ RS A hs t S' := by
  obtain ⟨q0, r0, h1, h2, h3, -⟩ := pr_period (gI (S0 A).1 A) (gJ (S0 A).2.1) (gQ (S0 A).2.2.1) L0 (S0 A).2.2.2.2.1 (S0 A).2.2.2.2.2  (gInv (S0_RS hA).1)
  refine ⟨r0.1, fun hs t S hS => ?_⟩
  obtain ⟨q, r, a1, a2, a3, -⟩ := pr_period (gI S.1 A) (gJ S.2.1) (gQ S.2.2.1) L0 S.2.2.2.2.1 S.2.2.2.2.2  (gInv hS.1)
  have e : r = r0 := Option.some.inj (a2.symm.trans h2)
  subst e
  refine ⟨(S.1, (upf ((upf ((upf ((upf (S.2.1) 0 q.2.1)) 2 q.2.2.1)) 4 q.2.2.2.1)) 5 q.2.2.2.2), S.2.2.1, S.2.2.2.1, S.2.2.2.2.1, S.2.2.2.2.2), ?_, hS.1, hS.2.1, hS.2.2⟩
  unfold o_period
  rw [show f_X8_period (S.2.2.1 0) (S.2.2.1 1) (S.1 0) (S.1 1) (S.1 2) (S.2.1 0) (S.2.1 2) (S.2.1 4) (S.2.1 5) = some q from a1, ← a3]
  rfl
theorem ev_period {A : AG} (hA : VG A) {r : Int32} (he : (e_X8_period (nI A.1) (nI A.2.length) (cF A) (cS A) (cN A) z6 z6 z6 z6).map (fun q => q.1) = some r) : ∀ (hs : List AG) (t : List Nat) (S : QS), RS A hs t S → ∃ S', o_period  S = some (r, S') ∧ RS A hs t S' := by
  obtain ⟨r1, H⟩ := det_period hA 
  obtain ⟨S1, h1, -⟩ := H [] [] (S0 A) (S0_RS hA)
  obtain ⟨q, hq, rfl⟩ := Option.map_eq_some_iff.mp he
  have h2 := le_f_X8_period _ _ _ _ _ _ _ _ _ _ hq
  unfold o_period at h1
  rw [show f_X8_period ((S0 A).2.2.1 0) ((S0 A).2.2.1 1) ((S0 A).1 0) ((S0 A).1 1) ((S0 A).1 2) ((S0 A).2.1 0) ((S0 A).2.1 2) ((S0 A).2.1 4) ((S0 A).2.1 5) = some q from h2] at h1
  have h3 : q.1 = r1 := congrArg Prod.fst (Option.some.inj h1)
  rw [h3]; exact H
set_option maxHeartbeats 1000000 in
theorem det_primeEdge {A : AG} (hA : VG A) (p1 : Int32) (p2 : Int32) (p3 : Int32) : ∃ r : Int32, ∀ (hs : List AG) (t : List Nat) (S : QS), RS A hs t S → ∃ S', o_primeEdge p1 p2 p3 S = some (r, S') ∧ RS A hs t S' := by
  obtain ⟨q0, r0, h1, h2, h3, -⟩ := pr_primeEdge (gI (S0 A).1 A) (gJ (S0 A).2.1) (gQ (S0 A).2.2.1) L0 (S0 A).2.2.2.2.1 (S0 A).2.2.2.2.2 p1 p2 p3 (gInv (S0_RS hA).1)
  refine ⟨r0.1, fun hs t S hS => ?_⟩
  obtain ⟨q, r, a1, a2, a3, -⟩ := pr_primeEdge (gI S.1 A) (gJ S.2.1) (gQ S.2.2.1) L0 S.2.2.2.2.1 S.2.2.2.2.2 p1 p2 p3 (gInv hS.1)
  have e : r = r0 := Option.some.inj (a2.symm.trans h2)
  subst e
  refine ⟨((upf (S.1) 9 q.2.2), S.2.1, (upf (S.2.2.1) 10 q.2.1), S.2.2.2.1, S.2.2.2.2.1, S.2.2.2.2.2), ?_, hS.1, hS.2.1, hS.2.2⟩
  unfold o_primeEdge
  rw [show f_X8_primeEdge p1 p2 p3 (S.2.2.1 0) (S.2.2.1 1) (S.1 0) (S.1 1) (S.1 2) (S.2.2.1 10) (S.1 9) = some q from a1, ← a3]
  rfl
theorem ev_primeEdge {A : AG} (hA : VG A) (p1 : Int32) (p2 : Int32) (p3 : Int32) {r : Int32} (he : (e_X8_primeEdge p1 p2 p3 (nI A.1) (nI A.2.length) (cF A) (cS A) (cN A) (nI 0) z3).map (fun q => q.1) = some r) : ∀ (hs : List AG) (t : List Nat) (S : QS), RS A hs t S → ∃ S', o_primeEdge p1 p2 p3 S = some (r, S') ∧ RS A hs t S' := by
  obtain ⟨r1, H⟩ := det_primeEdge hA p1 p2 p3
  obtain ⟨S1, h1, -⟩ := H [] [] (S0 A) (S0_RS hA)
  obtain ⟨q, hq, rfl⟩ := Option.map_eq_some_iff.mp he
  have h2 := le_f_X8_primeEdge _ _ _ _ _ _ _ _ _ _ _ hq
  unfold o_primeEdge at h1
  rw [show f_X8_primeEdge p1 p2 p3 ((S0 A).2.2.1 0) ((S0 A).2.2.1 1) ((S0 A).1 0) ((S0 A).1 1) ((S0 A).1 2) ((S0 A).2.2.1 10) ((S0 A).1 9) = some q from h2] at h1
  have h3 : q.1 = r1 := congrArg Prod.fst (Option.some.inj h1)
  rw [h3]; exact H
set_option maxHeartbeats 1000000 in
theorem det_primeSign {A : AG} (hA : VG A) (p1 : Int32) (p2 : Int32) : ∃ r : Int32, ∀ (hs : List AG) (t : List Nat) (S : QS), RS A hs t S → ∃ S', o_primeSign p1 p2 S = some (r, S') ∧ RS A hs t S' := by
  obtain ⟨q0, r0, h1, h2, h3, -⟩ := pr_primeSign (gI (S0 A).1 A) (gJ (S0 A).2.1) (gQ (S0 A).2.2.1) L0 (S0 A).2.2.2.2.1 (S0 A).2.2.2.2.2 p1 p2 (gInv (S0_RS hA).1)
  refine ⟨r0.1, fun hs t S hS => ?_⟩
  obtain ⟨q, r, a1, a2, a3, -⟩ := pr_primeSign (gI S.1 A) (gJ S.2.1) (gQ S.2.2.1) L0 S.2.2.2.2.1 S.2.2.2.2.2 p1 p2 (gInv hS.1)
  have e : r = r0 := Option.some.inj (a2.symm.trans h2)
  subst e
  refine ⟨((upf (S.1) 9 q.2.2), S.2.1, (upf (S.2.2.1) 10 q.2.1), S.2.2.2.1, S.2.2.2.2.1, S.2.2.2.2.2), ?_, hS.1, hS.2.1, hS.2.2⟩
  unfold o_primeSign
  rw [show f_X8_primeSign p1 p2 (S.2.2.1 0) (S.2.2.1 1) (S.1 0) (S.1 1) (S.1 2) (S.2.2.1 10) (S.1 9) = some q from a1, ← a3]
  rfl
theorem ev_primeSign {A : AG} (hA : VG A) (p1 : Int32) (p2 : Int32) {r : Int32} (he : (e_X8_primeSign p1 p2 (nI A.1) (nI A.2.length) (cF A) (cS A) (cN A) (nI 0) z3).map (fun q => q.1) = some r) : ∀ (hs : List AG) (t : List Nat) (S : QS), RS A hs t S → ∃ S', o_primeSign p1 p2 S = some (r, S') ∧ RS A hs t S' := by
  obtain ⟨r1, H⟩ := det_primeSign hA p1 p2
  obtain ⟨S1, h1, -⟩ := H [] [] (S0 A) (S0_RS hA)
  obtain ⟨q, hq, rfl⟩ := Option.map_eq_some_iff.mp he
  have h2 := le_f_X8_primeSign _ _ _ _ _ _ _ _ _ _ hq
  unfold o_primeSign at h1
  rw [show f_X8_primeSign p1 p2 ((S0 A).2.2.1 0) ((S0 A).2.2.1 1) ((S0 A).1 0) ((S0 A).1 1) ((S0 A).1 2) ((S0 A).2.2.1 10) ((S0 A).1 9) = some q from h2] at h1
  have h3 : q.1 = r1 := congrArg Prod.fst (Option.some.inj h1)
  rw [h3]; exact H
set_option maxHeartbeats 1000000 in
theorem det_edgeCoefficient {A : AG} (hA : VG A) (p1 : Int32) : ∃ r : Int64, ∀ (hs : List AG) (t : List Nat) (S : QS), RS A hs t S → ∃ S', o_edgeCoefficient p1 S = some (r, S') ∧ RS A hs t S' := by
  obtain ⟨q0, r0, h1, h2, h3, -⟩ := pr_edgeCoefficient (gI (S0 A).1 A) (gJ (S0 A).2.1) (gQ (S0 A).2.2.1) L0 (S0 A).2.2.2.2.1 (S0 A).2.2.2.2.2 p1 (gInv (S0_RS hA).1)
  refine ⟨r0.1, fun hs t S hS => ?_⟩
  obtain ⟨q, r, a1, a2, a3, -⟩ := pr_edgeCoefficient (gI S.1 A) (gJ S.2.1) (gQ S.2.2.1) L0 S.2.2.2.2.1 S.2.2.2.2.2 p1 (gInv hS.1)
  have e : r = r0 := Option.some.inj (a2.symm.trans h2)
  subst e
  refine ⟨(S.1, (upf ((upf ((upf ((upf (S.2.1) 0 q.2.1)) 4 q.2.2.1)) 5 q.2.2.2.1)) 6 q.2.2.2.2), S.2.2.1, S.2.2.2.1, S.2.2.2.2.1, S.2.2.2.2.2), ?_, hS.1, hS.2.1, hS.2.2⟩
  unfold o_edgeCoefficient
  rw [show f_X8_edgeCoefficient p1 (S.2.2.1 0) (S.2.2.1 1) (S.1 0) (S.1 1) (S.1 2) (S.2.1 0) (S.2.1 4) (S.2.1 5) (S.2.1 6) = some q from a1, ← a3]
  rfl
theorem ev_edgeCoefficient {A : AG} (hA : VG A) (p1 : Int32) {r : Int64} (he : (e_X8_edgeCoefficient p1 (nI A.1) (nI A.2.length) (cF A) (cS A) (cN A) z6 z6 z6 z6).map (fun q => q.1) = some r) : ∀ (hs : List AG) (t : List Nat) (S : QS), RS A hs t S → ∃ S', o_edgeCoefficient p1 S = some (r, S') ∧ RS A hs t S' := by
  obtain ⟨r1, H⟩ := det_edgeCoefficient hA p1
  obtain ⟨S1, h1, -⟩ := H [] [] (S0 A) (S0_RS hA)
  obtain ⟨q, hq, rfl⟩ := Option.map_eq_some_iff.mp he
  have h2 := le_f_X8_edgeCoefficient _ _ _ _ _ _ _ _ _ _ _ hq
  unfold o_edgeCoefficient at h1
  rw [show f_X8_edgeCoefficient p1 ((S0 A).2.2.1 0) ((S0 A).2.2.1 1) ((S0 A).1 0) ((S0 A).1 1) ((S0 A).1 2) ((S0 A).2.1 0) ((S0 A).2.1 4) ((S0 A).2.1 5) ((S0 A).2.1 6) = some q from h2] at h1
  have h3 : q.1 = r1 := congrArg Prod.fst (Option.some.inj h1)
  rw [h3]; exact H
set_option maxHeartbeats 1000000 in
theorem det_signedCoefficient {A : AG} (hA : VG A) (p1 : Int32) : ∃ r : Int64, ∀ (hs : List AG) (t : List Nat) (S : QS), RS A hs t S → ∃ S', o_signedCoefficient p1 S = some (r, S') ∧ RS A hs t S' := by
  obtain ⟨q0, r0, h1, h2, h3, -⟩ := pr_signedCoefficient (gI (S0 A).1 A) (gJ (S0 A).2.1) (gQ (S0 A).2.2.1) L0 (S0 A).2.2.2.2.1 (S0 A).2.2.2.2.2 p1 (gInv (S0_RS hA).1)
  refine ⟨r0.1, fun hs t S hS => ?_⟩
  obtain ⟨q, r, a1, a2, a3, -⟩ := pr_signedCoefficient (gI S.1 A) (gJ S.2.1) (gQ S.2.2.1) L0 S.2.2.2.2.1 S.2.2.2.2.2 p1 (gInv hS.1)
  have e : r = r0 := Option.some.inj (a2.symm.trans h2)
  subst e
  refine ⟨(S.1, (upf ((upf ((upf ((upf (S.2.1) 1 q.2.1)) 4 q.2.2.1)) 5 q.2.2.2.1)) 6 q.2.2.2.2), S.2.2.1, S.2.2.2.1, S.2.2.2.2.1, S.2.2.2.2.2), ?_, hS.1, hS.2.1, hS.2.2⟩
  unfold o_signedCoefficient
  rw [show f_X8_signedCoefficient p1 (S.2.2.1 0) (S.2.2.1 1) (S.1 0) (S.1 1) (S.1 2) (S.2.1 1) (S.2.1 4) (S.2.1 5) (S.2.1 6) = some q from a1, ← a3]
  rfl
theorem ev_signedCoefficient {A : AG} (hA : VG A) (p1 : Int32) {r : Int64} (he : (e_X8_signedCoefficient p1 (nI A.1) (nI A.2.length) (cF A) (cS A) (cN A) z6 z6 z6 z6).map (fun q => q.1) = some r) : ∀ (hs : List AG) (t : List Nat) (S : QS), RS A hs t S → ∃ S', o_signedCoefficient p1 S = some (r, S') ∧ RS A hs t S' := by
  obtain ⟨r1, H⟩ := det_signedCoefficient hA p1
  obtain ⟨S1, h1, -⟩ := H [] [] (S0 A) (S0_RS hA)
  obtain ⟨q, hq, rfl⟩ := Option.map_eq_some_iff.mp he
  have h2 := le_f_X8_signedCoefficient _ _ _ _ _ _ _ _ _ _ _ hq
  unfold o_signedCoefficient at h1
  rw [show f_X8_signedCoefficient p1 ((S0 A).2.2.1 0) ((S0 A).2.2.1 1) ((S0 A).1 0) ((S0 A).1 1) ((S0 A).1 2) ((S0 A).2.1 1) ((S0 A).2.1 4) ((S0 A).2.1 5) ((S0 A).2.1 6) = some q from h2] at h1
  have h3 : q.1 = r1 := congrArg Prod.fst (Option.some.inj h1)
  rw [h3]; exact H
set_option maxHeartbeats 1000000 in
theorem det_vertexCoefficient {A : AG} (hA : VG A) (p1 : Int32) : ∃ r : Int64, ∀ (hs : List AG) (t : List Nat) (S : QS), RS A hs t S → ∃ S', o_vertexCoefficient p1 S = some (r, S') ∧ RS A hs t S' := by
  obtain ⟨q0, r0, h1, h2, h3, -⟩ := pr_vertexCoefficient (gI (S0 A).1 A) (gJ (S0 A).2.1) (gQ (S0 A).2.2.1) L0 (S0 A).2.2.2.2.1 (S0 A).2.2.2.2.2 p1 (gInv (S0_RS hA).1)
  refine ⟨r0.1, fun hs t S hS => ?_⟩
  obtain ⟨q, r, a1, a2, a3, -⟩ := pr_vertexCoefficient (gI S.1 A) (gJ S.2.1) (gQ S.2.2.1) L0 S.2.2.2.2.1 S.2.2.2.2.2 p1 (gInv hS.1)
  have e : r = r0 := Option.some.inj (a2.symm.trans h2)
  subst e
  refine ⟨(S.1, (upf (S.2.1) 8 q.2.1), S.2.2.1, S.2.2.2.1, S.2.2.2.2.1, q.2.2), ?_, hS.1, hS.2.1, hS.2.2⟩
  unfold o_vertexCoefficient
  rw [show f_X8_vertexCoefficient p1 (S.2.2.1 0) (S.2.2.1 1) (S.1 0) (S.1 1) (S.2.1 8) (S.2.2.2.2.2) = some q from a1, ← a3]
  rfl
theorem ev_vertexCoefficient {A : AG} (hA : VG A) (p1 : Int32) {r : Int64} (he : (e_X8_vertexCoefficient p1 (nI A.1) (nI A.2.length) (cF A) (cS A) z6 (fun _ => z6)).map (fun q => q.1) = some r) : ∀ (hs : List AG) (t : List Nat) (S : QS), RS A hs t S → ∃ S', o_vertexCoefficient p1 S = some (r, S') ∧ RS A hs t S' := by
  obtain ⟨r1, H⟩ := det_vertexCoefficient hA p1
  obtain ⟨S1, h1, -⟩ := H [] [] (S0 A) (S0_RS hA)
  obtain ⟨q, hq, rfl⟩ := Option.map_eq_some_iff.mp he
  have h2 := le_f_X8_vertexCoefficient _ _ _ _ _ _ _ _ hq
  unfold o_vertexCoefficient at h1
  rw [show f_X8_vertexCoefficient p1 ((S0 A).2.2.1 0) ((S0 A).2.2.1 1) ((S0 A).1 0) ((S0 A).1 1) ((S0 A).2.1 8) ((S0 A).2.2.2.2.2) = some q from h2] at h1
  have h3 : q.1 = r1 := congrArg Prod.fst (Option.some.inj h1)
  rw [h3]; exact H
set_option maxHeartbeats 1000000 in
theorem det_bassCoefficient {A : AG} (hA : VG A) (p1 : Int32) : ∃ r : Int64, ∀ (hs : List AG) (t : List Nat) (S : QS), RS A hs t S → ∃ S', o_bassCoefficient p1 S = some (r, S') ∧ RS A hs t S' := by
  obtain ⟨q0, r0, h1, h2, h3, -⟩ := pr_bassCoefficient (gI (S0 A).1 A) (gJ (S0 A).2.1) (gQ (S0 A).2.2.1) L0 (S0 A).2.2.2.2.1 (S0 A).2.2.2.2.2 p1 (gInv (S0_RS hA).1)
  refine ⟨r0.1, fun hs t S hS => ?_⟩
  obtain ⟨q, r, a1, a2, a3, -⟩ := pr_bassCoefficient (gI S.1 A) (gJ S.2.1) (gQ S.2.2.1) L0 S.2.2.2.2.1 S.2.2.2.2.2 p1 (gInv hS.1)
  have e : r = r0 := Option.some.inj (a2.symm.trans h2)
  subst e
  refine ⟨(S.1, (upf (S.2.1) 8 q.2.1), S.2.2.1, S.2.2.2.1, S.2.2.2.2.1, q.2.2), ?_, hS.1, hS.2.1, hS.2.2⟩
  unfold o_bassCoefficient
  rw [show f_X8_bassCoefficient p1 (S.2.2.1 0) (S.2.2.1 1) (S.1 0) (S.1 1) (S.2.1 8) (S.2.2.2.2.2) = some q from a1, ← a3]
  rfl
theorem ev_bassCoefficient {A : AG} (hA : VG A) (p1 : Int32) {r : Int64} (he : (e_X8_bassCoefficient p1 (nI A.1) (nI A.2.length) (cF A) (cS A) z6 (fun _ => z6)).map (fun q => q.1) = some r) : ∀ (hs : List AG) (t : List Nat) (S : QS), RS A hs t S → ∃ S', o_bassCoefficient p1 S = some (r, S') ∧ RS A hs t S' := by
  obtain ⟨r1, H⟩ := det_bassCoefficient hA p1
  obtain ⟨S1, h1, -⟩ := H [] [] (S0 A) (S0_RS hA)
  obtain ⟨q, hq, rfl⟩ := Option.map_eq_some_iff.mp he
  have h2 := le_f_X8_bassCoefficient _ _ _ _ _ _ _ _ hq
  unfold o_bassCoefficient at h1
  rw [show f_X8_bassCoefficient p1 ((S0 A).2.2.1 0) ((S0 A).2.2.1 1) ((S0 A).1 0) ((S0 A).1 1) ((S0 A).2.1 8) ((S0 A).2.2.2.2.2) = some q from h2] at h1
  have h3 : q.1 = r1 := congrArg Prod.fst (Option.some.inj h1)
  rw [h3]; exact H
set_option maxHeartbeats 1000000 in
theorem det_zetaCoefficient {A : AG} (hA : VG A) (p1 : Int32) : ∃ r : Int64, ∀ (hs : List AG) (t : List Nat) (S : QS), RS A hs t S → ∃ S', o_zetaCoefficient p1 S = some (r, S') ∧ RS A hs t S' := by
  obtain ⟨q0, r0, h1, h2, h3, -⟩ := pr_zetaCoefficient (gI (S0 A).1 A) (gJ (S0 A).2.1) (gQ (S0 A).2.2.1) L0 (S0 A).2.2.2.2.1 (S0 A).2.2.2.2.2 p1 (gInv (S0_RS hA).1)
  refine ⟨r0.1, fun hs t S hS => ?_⟩
  obtain ⟨q, r, a1, a2, a3, -⟩ := pr_zetaCoefficient (gI S.1 A) (gJ S.2.1) (gQ S.2.2.1) L0 S.2.2.2.2.1 S.2.2.2.2.2 p1 (gInv hS.1)
  have e : r = r0 := Option.some.inj (a2.symm.trans h2)
  subst e
  refine ⟨(S.1, (upf ((upf ((upf ((upf ((upf (S.2.1) 0 q.2.1)) 4 q.2.2.1)) 5 q.2.2.2.1)) 6 q.2.2.2.2.1)) 7 q.2.2.2.2.2), S.2.2.1, S.2.2.2.1, S.2.2.2.2.1, S.2.2.2.2.2), ?_, hS.1, hS.2.1, hS.2.2⟩
  unfold o_zetaCoefficient
  rw [show f_X8_zetaCoefficient p1 (S.2.2.1 0) (S.2.2.1 1) (S.1 0) (S.1 1) (S.1 2) (S.2.1 0) (S.2.1 4) (S.2.1 5) (S.2.1 6) (S.2.1 7) = some q from a1, ← a3]
  rfl
theorem ev_zetaCoefficient {A : AG} (hA : VG A) (p1 : Int32) {r : Int64} (he : (e_X8_zetaCoefficient p1 (nI A.1) (nI A.2.length) (cF A) (cS A) (cN A) z6 z6 z6 z6 z6).map (fun q => q.1) = some r) : ∀ (hs : List AG) (t : List Nat) (S : QS), RS A hs t S → ∃ S', o_zetaCoefficient p1 S = some (r, S') ∧ RS A hs t S' := by
  obtain ⟨r1, H⟩ := det_zetaCoefficient hA p1
  obtain ⟨S1, h1, -⟩ := H [] [] (S0 A) (S0_RS hA)
  obtain ⟨q, hq, rfl⟩ := Option.map_eq_some_iff.mp he
  have h2 := le_f_X8_zetaCoefficient _ _ _ _ _ _ _ _ _ _ _ _ hq
  unfold o_zetaCoefficient at h1
  rw [show f_X8_zetaCoefficient p1 ((S0 A).2.2.1 0) ((S0 A).2.2.1 1) ((S0 A).1 0) ((S0 A).1 1) ((S0 A).1 2) ((S0 A).2.1 0) ((S0 A).2.1 4) ((S0 A).2.1 5) ((S0 A).2.1 6) ((S0 A).2.1 7) = some q from h2] at h1
  have h3 : q.1 = r1 := congrArg Prod.fst (Option.some.inj h1)
  rw [h3]; exact H
set_option maxHeartbeats 1000000 in
theorem det_edgeValue {A : AG} (hA : VG A) (p1 : Int32) : ∃ r : Int64, ∀ (hs : List AG) (t : List Nat) (S : QS), RS A hs t S → ∃ S', o_edgeValue p1 S = some (r, S') ∧ RS A hs t S' := by
  obtain ⟨q0, r0, h1, h2, h3, -⟩ := pr_edgeValue (gI (S0 A).1 A) (gJ (S0 A).2.1) (gQ (S0 A).2.2.1) L0 (S0 A).2.2.2.2.1 (S0 A).2.2.2.2.2 p1 (gInv (S0_RS hA).1)
  refine ⟨r0.1, fun hs t S hS => ?_⟩
  obtain ⟨q, r, a1, a2, a3, -⟩ := pr_edgeValue (gI S.1 A) (gJ S.2.1) (gQ S.2.2.1) L0 S.2.2.2.2.1 S.2.2.2.2.2 p1 (gInv hS.1)
  have e : r = r0 := Option.some.inj (a2.symm.trans h2)
  subst e
  refine ⟨(S.1, (upf ((upf ((upf ((upf (S.2.1) 0 q.2.1)) 4 q.2.2.1)) 5 q.2.2.2.1)) 6 q.2.2.2.2), S.2.2.1, S.2.2.2.1, S.2.2.2.2.1, S.2.2.2.2.2), ?_, hS.1, hS.2.1, hS.2.2⟩
  unfold o_edgeValue
  rw [show f_X8_edgeValue p1 (S.2.2.1 0) (S.2.2.1 1) (S.1 0) (S.1 1) (S.1 2) (S.2.1 0) (S.2.1 4) (S.2.1 5) (S.2.1 6) = some q from a1, ← a3]
  rfl
theorem ev_edgeValue {A : AG} (hA : VG A) (p1 : Int32) {r : Int64} (he : (e_X8_edgeValue p1 (nI A.1) (nI A.2.length) (cF A) (cS A) (cN A) z6 z6 z6 z6).map (fun q => q.1) = some r) : ∀ (hs : List AG) (t : List Nat) (S : QS), RS A hs t S → ∃ S', o_edgeValue p1 S = some (r, S') ∧ RS A hs t S' := by
  obtain ⟨r1, H⟩ := det_edgeValue hA p1
  obtain ⟨S1, h1, -⟩ := H [] [] (S0 A) (S0_RS hA)
  obtain ⟨q, hq, rfl⟩ := Option.map_eq_some_iff.mp he
  have h2 := le_f_X8_edgeValue _ _ _ _ _ _ _ _ _ _ _ hq
  unfold o_edgeValue at h1
  rw [show f_X8_edgeValue p1 ((S0 A).2.2.1 0) ((S0 A).2.2.1 1) ((S0 A).1 0) ((S0 A).1 1) ((S0 A).1 2) ((S0 A).2.1 0) ((S0 A).2.1 4) ((S0 A).2.1 5) ((S0 A).2.1 6) = some q from h2] at h1
  have h3 : q.1 = r1 := congrArg Prod.fst (Option.some.inj h1)
  rw [h3]; exact H
set_option maxHeartbeats 1000000 in
theorem det_taylorAtOne {A : AG} (hA : VG A) (p1 : Int32) : ∃ r : Int64, ∀ (hs : List AG) (t : List Nat) (S : QS), RS A hs t S → ∃ S', o_taylorAtOne p1 S = some (r, S') ∧ RS A hs t S' := by
  obtain ⟨q0, r0, h1, h2, h3, -⟩ := pr_taylorAtOne (gI (S0 A).1 A) (gJ (S0 A).2.1) (gQ (S0 A).2.2.1) L0 (S0 A).2.2.2.2.1 (S0 A).2.2.2.2.2 p1 (gInv (S0_RS hA).1)
  refine ⟨r0.1, fun hs t S hS => ?_⟩
  obtain ⟨q, r, a1, a2, a3, -⟩ := pr_taylorAtOne (gI S.1 A) (gJ S.2.1) (gQ S.2.2.1) L0 S.2.2.2.2.1 S.2.2.2.2.2 p1 (gInv hS.1)
  have e : r = r0 := Option.some.inj (a2.symm.trans h2)
  subst e
  refine ⟨(S.1, (upf ((upf ((upf ((upf ((upf (S.2.1) 0 q.2.1)) 4 q.2.2.1)) 5 q.2.2.2.1)) 6 q.2.2.2.2.1)) 7 q.2.2.2.2.2), S.2.2.1, S.2.2.2.1, S.2.2.2.2.1, S.2.2.2.2.2), ?_, hS.1, hS.2.1, hS.2.2⟩
  unfold o_taylorAtOne
  rw [show f_X8_taylorAtOne p1 (S.2.2.1 0) (S.2.2.1 1) (S.1 0) (S.1 1) (S.1 2) (S.2.1 0) (S.2.1 4) (S.2.1 5) (S.2.1 6) (S.2.1 7) = some q from a1, ← a3]
  rfl
theorem ev_taylorAtOne {A : AG} (hA : VG A) (p1 : Int32) {r : Int64} (he : (e_X8_taylorAtOne p1 (nI A.1) (nI A.2.length) (cF A) (cS A) (cN A) z6 z6 z6 z6 z6).map (fun q => q.1) = some r) : ∀ (hs : List AG) (t : List Nat) (S : QS), RS A hs t S → ∃ S', o_taylorAtOne p1 S = some (r, S') ∧ RS A hs t S' := by
  obtain ⟨r1, H⟩ := det_taylorAtOne hA p1
  obtain ⟨S1, h1, -⟩ := H [] [] (S0 A) (S0_RS hA)
  obtain ⟨q, hq, rfl⟩ := Option.map_eq_some_iff.mp he
  have h2 := le_f_X8_taylorAtOne _ _ _ _ _ _ _ _ _ _ _ _ hq
  unfold o_taylorAtOne at h1
  rw [show f_X8_taylorAtOne p1 ((S0 A).2.2.1 0) ((S0 A).2.2.1 1) ((S0 A).1 0) ((S0 A).1 1) ((S0 A).1 2) ((S0 A).2.1 0) ((S0 A).2.1 4) ((S0 A).2.1 5) ((S0 A).2.1 6) ((S0 A).2.1 7) = some q from h2] at h1
  have h3 : q.1 = r1 := congrArg Prod.fst (Option.some.inj h1)
  rw [h3]; exact H
set_option maxHeartbeats 1000000 in
theorem det_edgeDegree {A : AG} (hA : VG A) : ∃ r : Int32, ∀ (hs : List AG) (t : List Nat) (S : QS), RS A hs t S → ∃ S', o_edgeDegree  S = some (r, S') ∧ RS A hs t S' := by
  obtain ⟨q0, r0, h1, h2, h3, -⟩ := pr_edgeDegree (gI (S0 A).1 A) (gJ (S0 A).2.1) (gQ (S0 A).2.2.1) L0 (S0 A).2.2.2.2.1 (S0 A).2.2.2.2.2  (gInv (S0_RS hA).1)
  refine ⟨r0.1, fun hs t S hS => ?_⟩
  obtain ⟨q, r, a1, a2, a3, -⟩ := pr_edgeDegree (gI S.1 A) (gJ S.2.1) (gQ S.2.2.1) L0 S.2.2.2.2.1 S.2.2.2.2.2  (gInv hS.1)
  have e : r = r0 := Option.some.inj (a2.symm.trans h2)
  subst e
  refine ⟨(S.1, (upf ((upf ((upf ((upf (S.2.1) 0 q.2.1)) 4 q.2.2.1)) 5 q.2.2.2.1)) 6 q.2.2.2.2), S.2.2.1, S.2.2.2.1, S.2.2.2.2.1, S.2.2.2.2.2), ?_, hS.1, hS.2.1, hS.2.2⟩
  unfold o_edgeDegree
  rw [show f_X8_edgeDegree (S.2.2.1 0) (S.2.2.1 1) (S.1 0) (S.1 1) (S.1 2) (S.2.1 0) (S.2.1 4) (S.2.1 5) (S.2.1 6) = some q from a1, ← a3]
  rfl
theorem ev_edgeDegree {A : AG} (hA : VG A) {r : Int32} (he : (e_X8_edgeDegree (nI A.1) (nI A.2.length) (cF A) (cS A) (cN A) z6 z6 z6 z6).map (fun q => q.1) = some r) : ∀ (hs : List AG) (t : List Nat) (S : QS), RS A hs t S → ∃ S', o_edgeDegree  S = some (r, S') ∧ RS A hs t S' := by
  obtain ⟨r1, H⟩ := det_edgeDegree hA 
  obtain ⟨S1, h1, -⟩ := H [] [] (S0 A) (S0_RS hA)
  obtain ⟨q, hq, rfl⟩ := Option.map_eq_some_iff.mp he
  have h2 := le_f_X8_edgeDegree _ _ _ _ _ _ _ _ _ _ hq
  unfold o_edgeDegree at h1
  rw [show f_X8_edgeDegree ((S0 A).2.2.1 0) ((S0 A).2.2.1 1) ((S0 A).1 0) ((S0 A).1 1) ((S0 A).1 2) ((S0 A).2.1 0) ((S0 A).2.1 4) ((S0 A).2.1 5) ((S0 A).2.1 6) = some q from h2] at h1
  have h3 : q.1 = r1 := congrArg Prod.fst (Option.some.inj h1)
  rw [h3]; exact H
set_option maxHeartbeats 1000000 in
theorem det_spanningTrees {A : AG} (hA : VG A) : ∃ r : Int32, ∀ (hs : List AG) (t : List Nat) (S : QS), RS A hs t S → ∃ S', o_spanningTrees  S = some (r, S') ∧ RS A hs t S' := by
  obtain ⟨q0, r0, h1, h2, h3, -⟩ := pr_spanningTrees (gI (S0 A).1 A) (gJ (S0 A).2.1) (gQ (S0 A).2.2.1) L0 (S0 A).2.2.2.2.1 (S0 A).2.2.2.2.2  (gInv (S0_RS hA).1)
  refine ⟨r0.1, fun hs t S hS => ?_⟩
  obtain ⟨q, r, a1, a2, a3, -⟩ := pr_spanningTrees (gI S.1 A) (gJ S.2.1) (gQ S.2.2.1) L0 S.2.2.2.2.1 S.2.2.2.2.2  (gInv hS.1)
  have e : r = r0 := Option.some.inj (a2.symm.trans h2)
  subst e
  refine ⟨((upf ((upf (S.1) 7 q.2.1)) 8 q.2.2), S.2.1, S.2.2.1, S.2.2.2.1, S.2.2.2.2.1, S.2.2.2.2.2), ?_, hS.1, hS.2.1, hS.2.2⟩
  unfold o_spanningTrees
  rw [show f_X8_spanningTrees (S.2.2.1 0) (S.2.2.1 1) (S.1 0) (S.1 1) (S.1 2) (S.1 7) (S.1 8) = some q from a1, ← a3]
  rfl
theorem ev_spanningTrees {A : AG} (hA : VG A) {r : Int32} (he : (e_X8_spanningTrees (nI A.1) (nI A.2.length) (cF A) (cS A) (cN A) z3 z3).map (fun q => q.1) = some r) : ∀ (hs : List AG) (t : List Nat) (S : QS), RS A hs t S → ∃ S', o_spanningTrees  S = some (r, S') ∧ RS A hs t S' := by
  obtain ⟨r1, H⟩ := det_spanningTrees hA 
  obtain ⟨S1, h1, -⟩ := H [] [] (S0 A) (S0_RS hA)
  obtain ⟨q, hq, rfl⟩ := Option.map_eq_some_iff.mp he
  have h2 := le_f_X8_spanningTrees _ _ _ _ _ _ _ _ hq
  unfold o_spanningTrees at h1
  rw [show f_X8_spanningTrees ((S0 A).2.2.1 0) ((S0 A).2.2.1 1) ((S0 A).1 0) ((S0 A).1 1) ((S0 A).1 2) ((S0 A).1 7) ((S0 A).1 8) = some q from h2] at h1
  have h3 : q.1 = r1 := congrArg Prod.fst (Option.some.inj h1)
  rw [h3]; exact H
