theorem c_delete {j E : Nat} (hj : j < E) (hE : E ≤ 9) (v : Int32) (f s n : Nat → Int32) : ∃ f' s' n', f_X2_delete (nI j) v (nI E) f s n = some (nI (E - 1), f', s', n') ∧ ∀ k, k < E - 1 → f' k = (if k < j then f k else f (k + 1)) ∧ s' k = (if k < j then s k else s (k + 1)) ∧ n' k = (if k < j then n k else n (k + 1)) := by
  unfold f_X2_delete
  have hw := wh_inv (b := b_X2_delete_2 (nI E)) (fun i z => z.1 = nI i ∧ j ≤ i ∧ ∀ k, z.2.1 k = (if j ≤ k ∧ k < i then f (k + 1) else f k) ∧ z.2.2.1 k = (if j ≤ k ∧ k < i then s (k + 1) else s k) ∧ z.2.2.2 k = (if j ≤ k ∧ k < i then n (k + 1) else n k)) (fun r => ∀ k, r.1 k = (if j ≤ k ∧ k < E - 1 then f (k + 1) else f k) ∧ r.2.1 k = (if j ≤ k ∧ k < E - 1 then s (k + 1) else s k) ∧ r.2.2 k = (if j ≤ k ∧ k < E - 1 then n (k + 1) else n k)) (E - 1) (fun i z hi ⟨z1, z0, z2⟩ => ?_) (fun z ⟨z1, z0, z2⟩ => ?_) j (nI j, f, s, n) (by omega) ⟨rfl, Nat.le_refl j, fun k => ?_⟩
  · obtain ⟨⟨f', s', n'⟩, w1, w2⟩ := hw
    rw [bd_t w1, nsub (by omega)]
    refine ⟨f', s', n', rfl, fun k hk => ?_⟩
    obtain ⟨a1, a2, a3⟩ := w2 k
    dsimp only at a1 a2 a3
    rw [a1, a2, a3]
    by_cases h : k < j
    · have hn : ¬ (j ≤ k ∧ k < E - 1) := by omega
      refine ⟨?_, ?_, ?_⟩ <;> simp only [if_neg hn, if_pos h]
    · have hn : j ≤ k ∧ k < E - 1 := by omega
      refine ⟨?_, ?_, ?_⟩ <;> simp only [if_pos hn, if_neg h]
  · obtain ⟨zi, z1', z2', z3'⟩ := z
    dsimp only at z1 z2
    subst z1
    unfold b_X2_delete_2
    simp (disch := omega) only [nle, if_neg, nI_add, nsub, ginb, ncl]
    refine ⟨_, rfl, rfl, by omega, fun k => ?_⟩
    obtain ⟨a1, a2, a3⟩ := z2 k
    obtain ⟨b1, b2, b3⟩ := z2 (i + 1)
    rw [if_neg (by omega)] at b1 b2 b3
    dsimp only
    rw [upd_at, upd_at, upd_at, b1, b2, b3, a1, a2, a3]
    by_cases ek : k = i
    · subst ek
      rw [if_pos rfl, if_pos rfl, if_pos rfl, if_pos (by omega), if_pos (by omega), if_pos (by omega)]
      exact ⟨rfl, rfl, rfl⟩
    · rw [if_neg ek, if_neg ek, if_neg ek]
      by_cases h : j ≤ k ∧ k < i
      · rw [if_pos h, if_pos h, if_pos h, if_pos (by omega), if_pos (by omega), if_pos (by omega)]
        exact ⟨rfl, rfl, rfl⟩
      · rw [if_neg h, if_neg h, if_neg h, if_neg (by omega), if_neg (by omega), if_neg (by omega)]
        exact ⟨rfl, rfl, rfl⟩
  · unfold b_X2_delete_2
    simp (disch := omega) only [z1, nle, if_pos, nsub]
    exact ⟨_, rfl, z2⟩
  · dsimp only
    rw [if_neg (by omega), if_neg (by omega), if_neg (by omega)]
    exact ⟨rfl, rfl, rfl⟩
theorem m_delete {j E : Nat} (hj : j < E) (hE : E ≤ 9) (now : Nat → Int32) (h1 : now 1 = nI (E - 1)) : ∃ now', wh b_X9_removeEdge_30 (nI (2 + 3 * j), now) = some now' ∧ ∀ q, now' q = if 2 + 3 * j ≤ q ∧ q < 2 + 3 * (E - 1) then now (q + 3) else now q := by
  refine wh_inv (b := b_X9_removeEdge_30) (fun i z => z.1 = nI i ∧ 2 + 3 * j ≤ i ∧ ∀ q, z.2 q = if 2 + 3 * j ≤ q ∧ q < i then now (q + 3) else now q) (fun r => ∀ q, r q = if 2 + 3 * j ≤ q ∧ q < 2 + 3 * (E - 1) then now (q + 3) else now q) (2 + 3 * (E - 1)) (fun i z hi ⟨z1, z0, z2⟩ => ?_) (fun z ⟨z1, z0, z2⟩ => ?_) (2 + 3 * j) (nI (2 + 3 * j), now) (by omega) ⟨rfl, Nat.le_refl _, fun k => ?_⟩
  · obtain ⟨zi, z1'⟩ := z
    dsimp only at z1 z2
    subst z1
    have e1 : z1' 1 = nI (E - 1) := by rw [z2 1, if_neg (by omega)]; exact h1
    unfold b_X9_removeEdge_30
    simp (disch := omega) only [nle, if_neg, nI_add, pk_mul, nsub, ginb, ncl, e1]
    refine ⟨_, rfl, rfl, by omega, fun k => ?_⟩
    have b1 := z2 (i + 3)
    rw [if_neg (by omega)] at b1
    dsimp only
    rw [upd_at, b1, z2 k]
    by_cases ek : k = i
    · subst ek
      rw [if_pos rfl, if_pos (by omega)]
    · rw [if_neg ek]
      by_cases h : 2 + 3 * j ≤ k ∧ k < i
      · rw [if_pos h, if_pos (by omega)]
      · rw [if_neg h, if_neg (by omega)]
  · have e1 : z.2 1 = nI (E - 1) := by rw [z2 1, if_neg (by omega)]; exact h1
    unfold b_X9_removeEdge_30
    simp (disch := omega) only [z1, nle, if_pos, nsub, ginb, ncl, e1, pk_mul, nI_add]
    exact ⟨_, rfl, z2⟩
  · dsimp only
    rw [if_neg (by omega)]
theorem pr_removeEdge : Pr_removeEdge := by
  intro I J K L C Mm p1 hI
  obtain ⟨hg, hh, ht⟩ := id hI
  obtain ⟨c, k4, k11, hs⟩ := InvH_iff.mp hh
  obtain ⟨a, E, x, y, hG⟩ := gr_GA hg
  obtain ⟨g1, g2, g3, g4, g5, g6, g7, g8⟩ := id hG
  rw [Nat.zero_add] at g7
  have z0 : (nI 0 : Int32) = 0 := by decide
  have z1 : ¬ (nI 1 : Int32) = 0 := by decide
  unfold f_X8_removeEdge f_X9_removeEdge
  rw [show f_X2_hasEdge p1 (K 0) (K 1) = some (rng p1 E) by rw [g5]; exact c_hasEdge (by omega), m_isEdge (by omega) g7, bd_s, bd_s]
  rcases rng_cases p1 (n := E) (by omega) with h | ⟨h, j, hj, rfl⟩
  · simp only [h, if_pos z0]
    exact ⟨_, _, rfl, rfl, rfl, hg, hh, ht⟩
  simp only [h, if_neg z1, k4, k11]
  obtain ⟨c', L', C', past', s1, s2, s3⟩ := save_both hs hg (K 12) (K 13) (K 14)
  rw [bd_t s1, bd_t s2, g5]
  obtain ⟨f', s', n', d1, d2⟩ := c_delete hj g3 (K 0) (I 0) (I 1) (I 2)
  obtain ⟨now', d3, d4⟩ := m_delete hj g3 (upd (I 10) 1 (nI (E - 1))) (by rw [upd_at, if_pos rfl])
  rw [bd_t d1]
  simp (disch := omega) only [ginb, ncl, nm_s, pk_mul, nI_add, nsub, g7]
  rw [bd_t d3]
  have e0 : now' 0 = nI a := by rw [d4, if_neg (by omega), upd_at, if_neg (by omega)]; exact g6
  have e1 : now' 1 = nI (E - 1) := by rw [d4, if_neg (by omega), upd_at, if_pos rfl]
  refine ⟨_, _, rfl, rfl, e1.symm, ?_, InvH_iff.mpr ⟨c', rfl, rfl, s3⟩, ht⟩
  show gr (K 0) (nI (E - 1)) f' s' n' now' 0
  refine ⟨a, E - 1, g1, g2, by omega, g4, rfl, e0, by rw [Nat.zero_add]; exact e1, fun k hk => ?_⟩
  obtain ⟨a1, a2, a3⟩ := d2 k hk
  rw [a1, a2, a3, d4, d4, d4]
  by_cases hkj : k < j
  · obtain ⟨r1, r2, r3, r4, r5, r6, r7, r8, r9⟩ := g8 k (by omega)
    rw [if_pos hkj, if_pos hkj, if_pos hkj, if_neg (by omega), if_neg (by omega), if_neg (by omega), upd_at, if_neg (by omega), upd_at, if_neg (by omega), upd_at, if_neg (by omega)]
    exact ⟨x k, y k, r1, r2, r3, r4, r5, r6, r7, r8, r9⟩
  · obtain ⟨r1, r2, r3, r4, r5, r6, r7, r8, r9⟩ := g8 (k + 1) (by omega)
    rw [if_neg hkj, if_neg hkj, if_neg hkj, if_pos (by omega), if_pos (by omega), if_pos (by omega), upd_at, if_neg (by omega), upd_at, if_neg (by omega), upd_at, if_neg (by omega)]
    exact ⟨x (k + 1), y (k + 1), r1, r2, r3, r4, r5, r6, r7, r8, r9⟩
