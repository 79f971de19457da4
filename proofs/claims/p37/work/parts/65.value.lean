variable {v e : Int32} {f s n now : Nat → Int32} {a E : Nat} {x y : Nat → Nat}
theorem val_rel (p : Int32) (c1 c2 : Nat → Int64) (q : Int32 × (Nat → Int64) × (Nat → Int64) × (Nat → Int64) × (Nat → Int64) × (Nat → Int64) × (Nat → Int64)) (hq : q.2.2.1 = c2) (h : ∀ k, k ≤ 18 → c1 k = c2 k) : ∃ r, f_X0_valueAt p.toInt64 c1 = some r ∧ wh (b_X9_edgeValue_24 p q) (nI 18, (0 : Int64)) = some r := by
  have hneg : nI 4294967295 < 0 := by decide
  have h00 : nI 0 + nI 4294967295 = nI 4294967295 := by decide
  generalize nI 4294967295 = cc' at hneg h00
  obtain ⟨r1, r2, w1, w2, hQ⟩ := wh_rel (b1 := b_X0_valueAt_6 p.toInt64 c1) (b2 := b_X9_edgeValue_24 p q) (fun i s t => s = t ∧ s.1 = if i ≤ 18 then nI (18 - i) else nI 4294967295) (fun r1 r2 => r1 = r2) 19 (fun i s t hi ⟨p1, p2⟩ => by
    subst p1
    obtain ⟨si, sa⟩ := s
    dsimp only at p2
    rw [if_pos (by omega)] at p2
    subst p2
    have g1 : ¬ nI (18 - i) < 0 := by rw [← nI_0, nlt (by omega) (by omega)]; omega
    unfold b_X0_valueAt_6 b_X9_edgeValue_24
    simp only [if_neg g1, hq]
    rw [ginb (by omega) (by omega), ginb (by omega) (by omega), ncl (by omega), nm_s, nm_s, nm_s, nm_s, h _ (by omega)]
    refine Or.inl ⟨_, _, rfl, rfl, rfl, ?_⟩
    dsimp only
    by_cases hi2 : i + 1 ≤ 18
    · rw [if_pos hi2, dwn (by omega) (by omega), show 18 - i - 1 = 18 - (i + 1) by omega]
    · rw [if_neg hi2, show 18 - i = 0 by omega, nI_0, Int32.zero_add]) (fun s t ⟨p1, p2⟩ => by
    subst p1
    obtain ⟨si, sa⟩ := s
    dsimp only at p2
    rw [if_neg (by omega)] at p2
    have g1 : si < 0 := by rw [p2]; decide
    unfold b_X0_valueAt_6 b_X9_edgeValue_24
    simp only [if_pos g1]
    exact ⟨_, _, rfl, rfl, rfl⟩) 0 (nI 18, (0 : Int64)) (nI 18, (0 : Int64)) (by omega) ⟨rfl, rfl⟩
  subst hQ
  unfold f_X0_valueAt
  rw [bd_t w1]
  exact ⟨_, rfl, w2⟩
theorem pr_edgeValue : Pr_edgeValue := by
  intro I J K L C Mm p1 hI
  obtain ⟨hg, hh, ht⟩ := id hI
  obtain ⟨a, E, x, y, hG⟩ := gr_GA hg
  unfold f_X8_edgeValue f_X9_edgeValue f_X8_makeEdgePolynomial f_X7_countClosed f_X9_laysEdgePoly f_X9_in
  by_cases h1 : p1 < nI 4294967294
  · simp only [if_pos h1, bd_s, if_pos (show (nI 0 : Int32) = 0 by decide)]
    exact ⟨_, _, rfl, rfl, rfl, hg, hh, ht⟩
  · by_cases h2 : nI 2 < p1
    · have h3 : ¬ p1 ≤ nI 2 := not_le_of h2
      simp only [if_neg h1, if_pos h2, if_neg h3, bd_s, if_pos (show (nI 0 : Int32) = 0 by decide)]
      exact ⟨_, _, rfl, rfl, rfl, hg, hh, ht⟩
    · have h3 : p1 ≤ nI 2 := le_of_not h2
      simp only [if_neg h1, if_neg h2, if_pos h3, bd_s, if_neg (show ¬ (nI 1 : Int32) = 0 by decide)]
      obtain ⟨r, c1, c2⟩ := c_addReturns hG (w := 0) (by omega) (J 4) (J 5) (J 0)
      obtain ⟨r2, c3, c4⟩ := c_edge hG 0 (J 6) r.2.2 c2
      obtain ⟨A, r3, d1, d2, d3⟩ := m_edge hG (w := 0) (by omega) (K 11) (K 12) (K 13) (K 14) (J 9) (J 12) (J 13) (J 14) (J 15) (J 16)
      rw [bd_t c1, bd_s, bd_t c3, bd_s, bd_t d1, bd_t d2, bd_s]
      obtain ⟨z, e1, e2⟩ := val_rel p1 r2 r3.1 (nI (2 * E), A, r3.1, r3.2.1, r3.2.2.1, r3.2.2.2.1, r3.2.2.2.2) rfl (fun k hk => (c4 k hk).trans (d3 k hk).symm)
      rw [bd_t e1, bd_t e2]
      exact ⟨_, _, rfl, rfl, rfl, hg, hh, ht⟩
