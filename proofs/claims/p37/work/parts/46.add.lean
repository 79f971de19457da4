theorem gr_app {v e : Int32} {f s n now : Nat → Int32} {a E : Nat} {x y : Nat → Nat} (hG : GA v e f s n now 0 a E x y) (hE : E < 9) {u w : Nat} (hu : u < a) (hw : w < a) (hne : u ≠ w) {z : Int32} (hz : z = nI 1 ∨ z = nI 4294967295) : gr v (nI (E + 1)) (upd f E (nI u)) (upd s E (nI w)) (upd n E z) (upd (upd (upd (upd now (2 + 3 * E) (nI u)) (2 + 3 * E + 1) (nI w)) (2 + 3 * E + 2) z) 1 (nI (E + 1))) 0 := by
  obtain ⟨g1, g2, g3, g4, g5, g6, g7, g8⟩ := hG
  refine ⟨a, E + 1, g1, g2, by omega, g4, rfl, ?_, ?_, fun k hk => ?_⟩
  · simp only [upd_at]
    rw [if_neg (by omega), if_neg (by omega), if_neg (by omega), if_neg (by omega)]
    exact g6
  · rw [upd_at, if_pos (by omega)]
  · by_cases ek : k = E
    · subst ek
      refine ⟨u, w, hu, hw, hne, ?_, ?_, ?_, ?_, ?_, ?_⟩
      · rw [upd_at, if_pos rfl]
      · rw [upd_at, if_pos rfl]
      · rw [upd_at, if_neg (by omega), upd_at, if_neg (by omega), upd_at, if_neg (by omega), upd_at, if_pos (by omega)]
      · rw [upd_at, if_neg (by omega), upd_at, if_neg (by omega), upd_at, if_pos (by omega)]
      · rw [upd_at, if_pos rfl]; exact hz
      · rw [upd_at, if_neg (by omega), upd_at, if_pos (by omega), upd_at, if_pos rfl]
    · obtain ⟨d1, d2, d3, d4, d5, d6, d7, d8, d9⟩ := g8 k (by omega)
      refine ⟨x k, y k, d1, d2, d3, ?_, ?_, ?_, ?_, ?_, ?_⟩
      · rw [upd_at, if_neg ek]; exact d4
      · rw [upd_at, if_neg ek]; exact d5
      · rw [upd_at, if_neg (by omega), upd_at, if_neg (by omega), upd_at, if_neg (by omega), upd_at, if_neg (by omega)]; exact d6
      · rw [upd_at, if_neg (by omega), upd_at, if_neg (by omega), upd_at, if_neg (by omega), upd_at, if_neg (by omega)]; exact d7
      · rw [upd_at, if_neg ek]; exact d8
      · rw [upd_at, if_neg (by omega), upd_at, if_neg (by omega), upd_at, if_neg (by omega), upd_at, if_neg (by omega), upd_at, if_neg ek]; exact d9
theorem c_append {v : Int32} {E : Nat} (hE : E < 9) (p1 p2 p3 : Int32) (f s n : Nat → Int32) : f_X2_append p1 p2 p3 v (nI E) f s n = some (nI (E + 1), upd f E p1, upd s E p2, upd n E p3) := by
  unfold f_X2_append
  rw [c_isFull (by omega), bd_s, if_pos hE]
  simp (disch := omega) only [ginb, ncl, nI_add, if_pos (show (nI 0 : Int32) = 0 by decide)]
theorem pr_addEdge : Pr_addEdge := by
  intro I J K L C Mm p1 p2 p3 hI
  obtain ⟨hg, hh, ht⟩ := id hI
  obtain ⟨c, k4, k11, hs⟩ := InvH_iff.mp hh
  obtain ⟨a, E, x, y, hG⟩ := gr_GA hg
  obtain ⟨g1, g2, g3, g4, g5, g6, g7, g8⟩ := id hG
  rw [Nat.zero_add] at g7
  unfold f_X8_addEdge f_X9_addEdge
  rw [m_isVertex (show a < 2 ^ 30 by omega) g6, m_isVertex (show a < 2 ^ 30 by omega) g6, show f_X2_hasVertex p1 (K 0) (K 1) = some (rng p1 a) by rw [g4]; exact c_hasVertex (by omega), show f_X2_hasVertex p2 (K 0) (K 1) = some (rng p2 a) by rw [g4]; exact c_hasVertex (by omega), bd_s, bd_s]
  have z0 : (nI 0 : Int32) = 0 := by decide
  have z1 : ¬ (nI 1 : Int32) = 0 := by decide
  rcases rng_cases p1 (n := a) (by omega) with h | ⟨h, u, hu, rfl⟩
  · simp only [h, if_pos z0]
    exact ⟨_, _, rfl, rfl, rfl, hg, hh, ht⟩
  rcases rng_cases p2 (n := a) (by omega) with h' | ⟨h', w, hw, rfl⟩
  · simp only [h, h', bd_s, if_neg z1, if_pos z0]
    exact ⟨_, _, rfl, rfl, rfl, hg, hh, ht⟩
  simp only [h, h', bd_s, if_neg z1]
  by_cases hne : u = w
  · subst hne
    simp only [if_pos]
    exact ⟨_, _, rfl, rfl, rfl, hg, hh, ht⟩
  have hne' : ¬ nI u = nI w := by rw [neq (by omega) (by omega)]; exact hne
  simp only [if_neg hne']
  have m1 : (nI 1).toNatClampNeg = 1 := ncl (by omega)
  obtain ⟨c', L', C', past', s1, s2, s3⟩ := save_both hs hg (K 12) (K 13) (K 14)
  have core : ∀ z : Int32, (z = nI 1 ∨ z = nI 4294967295) → E < 9 → Inv (upf (upf (upf (upf (upf I 0 (upd (I 0) E (nI u))) 1 (upd (I 1) E (nI w))) 2 (upd (I 2) E z)) 10 (upd (upd (upd (upd (I 10) (2 + 3 * E) (nI u)) (2 + 3 * E + 1) (nI w)) (2 + 3 * E + 2) z) 1 (nI (E + 1)))) 12 past') (upf (upf (upf K 1 (nI (E + 1))) 4 (nI c')) 11 (nI c')) L' C' := by
    intro z hz hE
    exact ⟨gr_app hG hE hu hw hne hz, InvH_iff.mpr ⟨c', rfl, rfl, s3⟩, ht⟩
  have full : ¬ E < 9 → nI E = nI 9 := by
    intro hE
    rw [show E = 9 by omega]
  have nfull : E < 9 → ¬ nI E = nI 9 := by
    intro hE
    rw [neq (by omega) (by omega)]
    omega
  by_cases q1 : p3 = nI 1
  · simp only [if_pos q1]
    rw [show f_X2_isFull (K 0) (K 1) = some (if E < 9 then nI 0 else nI 1) by rw [g5]; exact c_isFull g3, bd_s, m1, g7, ginb (show 1 < 29 by omega) (by omega)]
    by_cases hE : E < 9
    · simp only [if_pos hE, if_pos z0, if_neg (nfull hE), k4, k11]
      rw [bd_t s1, bd_t s2, g5, c_append hE, bd_s]
      simp (disch := omega) only [ginb, ncl, nm_s, pk_mul, nI_add, upd_at, if_neg, if_pos, nsub, g7, ↓reduceIte]
      exact ⟨_, _, rfl, rfl, rfl, core p3 (Or.inl q1) hE⟩
    · simp only [if_neg hE, if_neg z1, if_pos (full hE)]
      exact ⟨_, _, rfl, rfl, rfl, hg, hh, ht⟩
  · simp only [if_neg q1]
    by_cases q2 : p3 = nI 4294967295
    · simp only [if_pos q2]
      rw [show f_X2_isFull (K 0) (K 1) = some (if E < 9 then nI 0 else nI 1) by rw [g5]; exact c_isFull g3, bd_s, m1, g7, ginb (show 1 < 29 by omega) (by omega)]
      by_cases hE : E < 9
      · simp only [if_pos hE, if_pos z0, if_neg (nfull hE), k4, k11]
        rw [bd_t s1, bd_t s2, g5, c_append hE, bd_s]
        simp (disch := omega) only [ginb, ncl, nm_s, pk_mul, nI_add, upd_at, if_neg, if_pos, nsub, g7, ↓reduceIte]
        exact ⟨_, _, rfl, rfl, rfl, core p3 (Or.inr q2) hE⟩
      · simp only [if_neg hE, if_neg z1, if_pos (full hE)]
        exact ⟨_, _, rfl, rfl, rfl, hg, hh, ht⟩
    · simp only [if_neg q2]
      exact ⟨_, _, rfl, rfl, rfl, hg, hh, ht⟩
