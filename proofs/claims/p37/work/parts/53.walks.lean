variable {v e : Int32} {f s n now : Nat → Int32} {a E : Nat} {x y : Nat → Nat}
theorem c_walkLen (p : Int32) : (f_X8_isWalkLength p = some (nI 0) ∧ f_X9_isLength p = some (nI 0)) ∨ (∃ m, 1 ≤ m ∧ m ≤ 18 ∧ p = nI m ∧ f_X8_isWalkLength p = some (nI 1) ∧ f_X9_isLength p = some (nI 1)) := by
  unfold f_X8_isWalkLength f_X9_isLength f_X9_in
  rcases rng_lh p 1 18 (by omega) (by omega) with ⟨h1, h2⟩ | ⟨h1, h2⟩ | ⟨b, h1, h2, rfl⟩
  · rw [if_pos h1, bd_s, gbq0]; exact Or.inl ⟨rfl, rfl⟩
  · rw [if_neg h1, if_pos h2, bd_s, gbq0]; exact Or.inl ⟨rfl, rfl⟩
  · have c1 : ¬ nI b < nI 1 := by rw [nlt (by omega) (by omega)]; omega
    have c2 : ¬ nI 18 < nI b := by rw [nlt (by omega) (by omega)]; omega
    rw [if_neg c1, if_neg c2, bd_s, gbq1]; exact Or.inr ⟨b, h1, h2, rfl, rfl, rfl⟩
theorem m_walksOf (hG : GA v e f s n now 0 a E x y) {w m : Nat} (hw2 : w < 2) (h1 : 1 ≤ m) (h2 : m ≤ 18) (q1 q2 q3 q4 : Int32) (mat pow prd tr : Nat → Int64) : ∃ r, f_X9_walksOf (nI w) (nI m) q1 q2 q3 q4 now mat pow prd tr = some r ∧ r.1 = iL (rt x y (sgW w n) E E m) := by
  obtain ⟨r, t1, t2, t3⟩ := m_laysTraces hG hw2 h2 q1 q2 q3 q4 mat pow prd tr
  unfold f_X9_walksOf
  rw [bd_t t1, ginb (by omega) (by omega), ncl (by omega)]
  refine ⟨_, rfl, ?_⟩
  show r.2.2.2.2 m = _
  rw [t3 m h1 (Nat.le_refl m), rt_eq hG]
theorem pr_walks : Pr_walks := by
  intro I J K L C Mm p1 hI
  obtain ⟨hg, hh, ht⟩ := id hI
  obtain ⟨a, E, x, y, hG⟩ := gr_GA hg
  unfold f_X8_walks f_X9_walks f_X7_countClosed
  rcases c_walkLen p1 with ⟨l1, l2⟩ | ⟨m, m1, m2, rfl, l1, l2⟩
  · rw [l1, l2, bd_s, bd_s, if_pos (show (nI 0 : Int32) = 0 by decide), if_pos (show (nI 0 : Int32) = 0 by decide)]
    exact ⟨_, _, rfl, rfl, rfl, hg, hh, ht⟩
  · rw [l1, l2, bd_s, bd_s, if_neg (show ¬ (nI 1 : Int32) = 0 by decide), if_neg (show ¬ (nI 1 : Int32) = 0 by decide)]
    obtain ⟨r, c1, c2⟩ := c_addReturns hG (w := 0) (by omega) (J 4) (J 5) (J 0)
    obtain ⟨r', d1, d2⟩ := m_walksOf hG (w := 0) (by omega) m1 m2 (K 11) (K 12) (K 13) (K 14) (J 9) (J 10) (J 11) (J 17)
    rw [bd_t c1, bd_s, bd_t d1, ginb (by omega) (by omega), ncl (by omega)]
    exact ⟨_, _, rfl, rfl, (c2 m m1 m2).trans d2.symm, hg, hh, ht⟩
theorem pr_signedWalks : Pr_signedWalks := by
  intro I J K L C Mm p1 hI
  obtain ⟨hg, hh, ht⟩ := id hI
  obtain ⟨a, E, x, y, hG⟩ := gr_GA hg
  unfold f_X8_signedWalks f_X9_signedWalks f_X7_countClosedSigned
  rcases c_walkLen p1 with ⟨l1, l2⟩ | ⟨m, m1, m2, rfl, l1, l2⟩
  · rw [l1, l2, bd_s, bd_s, if_pos (show (nI 0 : Int32) = 0 by decide), if_pos (show (nI 0 : Int32) = 0 by decide)]
    exact ⟨_, _, rfl, rfl, rfl, hg, hh, ht⟩
  · rw [l1, l2, bd_s, bd_s, if_neg (show ¬ (nI 1 : Int32) = 0 by decide), if_neg (show ¬ (nI 1 : Int32) = 0 by decide)]
    obtain ⟨r, c1, c2⟩ := c_addReturns hG (w := 1) (by omega) (J 4) (J 5) (J 1)
    obtain ⟨r', d1, d2⟩ := m_walksOf hG (w := 1) (by omega) m1 m2 (K 11) (K 12) (K 13) (K 14) (J 9) (J 10) (J 11) (J 17)
    rw [bd_t c1, bd_s, bd_t d1, ginb (by omega) (by omega), ncl (by omega)]
    exact ⟨_, _, rfl, rfl, (c2 m m1 m2).trans d2.symm, hg, hh, ht⟩
theorem pr_coverWalks : Pr_coverWalks := by
  intro I J K L C Mm p1 hI
  obtain ⟨hg, hh, ht⟩ := id hI
  obtain ⟨a, E, x, y, hG⟩ := gr_GA hg
  unfold f_X8_coverWalks f_X9_coverWalks f_X7_countClosed f_X7_countClosedSigned
  rcases c_walkLen p1 with ⟨l1, l2⟩ | ⟨m, m1, m2, rfl, l1, l2⟩
  · rw [l1, l2, bd_s, bd_s, if_pos (show (nI 0 : Int32) = 0 by decide), if_pos (show (nI 0 : Int32) = 0 by decide)]
    exact ⟨_, _, rfl, rfl, rfl, hg, hh, ht⟩
  · rw [l1, l2, bd_s, bd_s, if_neg (show ¬ (nI 1 : Int32) = 0 by decide), if_neg (show ¬ (nI 1 : Int32) = 0 by decide)]
    obtain ⟨r, c1, c2⟩ := c_addReturns hG (w := 0) (by omega) (J 4) (J 5) (J 0)
    obtain ⟨r2, c3, c4⟩ := c_addReturns hG (w := 1) (by omega) r.1 r.2.1 (J 1)
    obtain ⟨r', d1, d2⟩ := m_walksOf hG (w := 0) (by omega) m1 m2 (K 11) (K 12) (K 13) (K 14) (J 9) (J 10) (J 11) (J 17)
    obtain ⟨r2', d3, d4⟩ := m_walksOf hG (w := 1) (by omega) m1 m2 (K 11) (K 12) (K 13) r'.2.1 r'.2.2.1 r'.2.2.2.1 r'.2.2.2.2.1 r'.2.2.2.2.2
    rw [bd_t c1, bd_s, bd_t c3, bd_s, bd_t d1, bd_t d3, ginb (by omega) (by omega), ginb (by omega) (by omega), ncl (by omega)]
    refine ⟨_, _, rfl, rfl, ?_, hg, hh, ht⟩
    show r.2.2 m + r2.2.2 m = r'.1 + r2'.1
    rw [c2 m m1 m2, c4 m m1 m2, d2, d4]
