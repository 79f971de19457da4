variable {v e : Int32} {f s n now : Nat → Int32} {a E : Nat} {x y : Nat → Nat}
theorem c_index12 (p : Int32) : (f_X8_isIndex p (nI 12) = some (nI 0) ∧ f_X9_in p (nI 0) (nI 12) = some (nI 0)) ∨ (∃ m, m ≤ 12 ∧ p = nI m ∧ f_X8_isIndex p (nI 12) = some (nI 1) ∧ f_X9_in p (nI 0) (nI 12) = some (nI 1)) := by
  unfold f_X8_isIndex f_X9_in
  rw [nI_0]
  rcases rng_lh p 0 12 (by omega) (by omega) with ⟨h1, h2⟩ | ⟨h1, h2⟩ | ⟨b, h1, h2, rfl⟩
  · rw [nI_0] at h1
    rw [if_pos h1]; exact Or.inl ⟨rfl, rfl⟩
  · rw [nI_0] at h1
    rw [if_neg h1, if_pos h2]; exact Or.inl ⟨rfl, rfl⟩
  · have c1 : ¬ nI b < 0 := by rw [← nI_0, nlt (by omega) (by omega)]; omega
    have c2 : ¬ nI 12 < nI b := by rw [nlt (by omega) (by omega)]; omega
    rw [if_neg c1, if_neg c2]; exact Or.inr ⟨b, h2, rfl, rfl, rfl⟩
theorem zet_first (m : Nat) (hm : m ≤ 18) (q : Int32 × (Nat → Int64) × (Nat → Int64) × (Nat → Int64) × (Nat → Int64) × (Nat → Int64) × (Nat → Int64)) (w : Nat → Int64) : b_X9_zetaCoefficient_20 (nI m) q (nI 0, w) = some (Sum.inl (nI 1, vp_updL w 0 1)) := by
  have g1 : ¬ nI m < nI 0 := by rw [nlt (by omega) (by omega)]; omega
  have hi : wh (b_X9_zetaCoefficient_42 q (nI 0, w)) (nI 1, vp_updL w 0 1) = some (vp_updL w 0 1) := by
    refine wh_inr ?_
    unfold b_X9_zetaCoefficient_42
    rw [if_pos (show nI 0 < nI 1 by decide)]
  unfold b_X9_zetaCoefficient_20
  simp only [if_neg g1, if_pos (show (nI 0 : Int32) = 0 by decide), bd_s]
  rw [ginb (show 0 < 19 by omega) (by omega), ncl (by omega), bd_t hi, nI_add]
theorem pr_zetaCoefficient : Pr_zetaCoefficient := by
  intro I J K L C Mm p1 hI
  obtain ⟨hg, hh, ht⟩ := id hI
  obtain ⟨a, E, x, y, hG⟩ := gr_GA hg
  unfold f_X8_zetaCoefficient f_X9_zetaCoefficient f_X8_makeEdgePolynomial f_X7_countClosed f_X9_laysEdgePoly f_X0_inverseCoefficient
  rcases c_index12 p1 with ⟨l1, l2⟩ | ⟨m, m2, rfl, l1, l2⟩
  · rw [l1, l2, bd_s, bd_s, if_pos (show (nI 0 : Int32) = 0 by decide), if_pos (show (nI 0 : Int32) = 0 by decide)]
    exact ⟨_, _, rfl, rfl, rfl, hg, hh, ht⟩
  · rw [l1, l2, bd_s, bd_s, if_neg (show ¬ (nI 1 : Int32) = 0 by decide), if_neg (show ¬ (nI 1 : Int32) = 0 by decide)]
    obtain ⟨r, c1, c2⟩ := c_addReturns hG (w := 0) (by omega) (J 4) (J 5) (J 0)
    obtain ⟨r2, c3, c4⟩ := c_edge hG 0 (J 6) r.2.2 c2
    obtain ⟨A, r3, d1, d2, d3⟩ := m_edge hG (w := 0) (by omega) (K 11) (K 12) (K 13) (K 14) (J 9) (J 12) (J 13) (J 14) (J 15) (J 16)
    rw [bd_t c1, bd_s, bd_t c3, bd_s, bd_t d1, bd_t d2, bd_s]
    obtain ⟨z1, z2, e1, e2, e3⟩ := zet_rel (m := m) (by omega) r2 r3.1 (vp_updL (J 7) 0 1) (vp_updL r3.2.1 0 1) (nI (2 * E), A, r3.1, r3.2.1, r3.2.2.1, r3.2.2.2.1, r3.2.2.2.2) rfl (fun k hk => (c4 k hk).trans (d3 k hk).symm) ⟨by rw [updL_at, if_pos rfl], by rw [updL_at, if_pos rfl]⟩
    have e4 := wh_inl (zet_first m (by omega) (nI (2 * E), A, r3.1, r3.2.1, r3.2.2.1, r3.2.2.2.1, r3.2.2.2.2) r3.2.1) e2
    simp (disch := omega) only [ginb, ncl]
    rw [bd_t e1, bd_t e4, bd_s]
    exact ⟨_, _, rfl, rfl, e3 m (Nat.le_refl m), hg, hh, ht⟩
