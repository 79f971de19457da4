theorem pr_vertexCoefficient : Pr_vertexCoefficient := by
  intro I J K L C Mm p1 hI
  obtain ⟨hg, hh, ht⟩ := id hI
  obtain ⟨a, E, x, y, hG⟩ := gr_GA hg
  have ga := hG.2.1
  unfold f_X8_vertexCoefficient f_X9_vertexCoefficient
  rcases c_index12 p1 with ⟨l1, l2⟩ | ⟨m, m2, rfl, l1, l2⟩
  · rw [l1, l2, bd_s, bd_s, if_pos (show (nI 0 : Int32) = 0 by decide), if_pos (show (nI 0 : Int32) = 0 by decide)]
    exact ⟨_, _, rfl, rfl, rfl, hg, hh, ht⟩
  · rw [l1, l2, bd_s, bd_s, if_neg (show ¬ (nI 1 : Int32) = 0 by decide), if_neg (show ¬ (nI 1 : Int32) = 0 by decide)]
    obtain ⟨r, c1, c2⟩ := c_makeFromV hG (J 8) Mm
    obtain ⟨r2, d1, d2⟩ := m_laysVertices hG (K 11) (K 12) (K 13) (K 14) (J 9)
    obtain ⟨r3, d3, d4⟩ := m_laysPoly2 (N := a + a) (by omega) (K 11) (K 12) (K 13) r2 (J 12) (J 13) (J 14) (J 15) (J 16) (VM x y E a) d2
    rw [bd_t c1, bd_t d1, bd_t d3, ginb (by omega) (by omega), ginb (by omega) (by omega), ncl (by omega)]
    exact ⟨_, _, rfl, rfl, (c2 m (by omega)).trans (d4 m (by omega)).symm, hg, hh, ht⟩
theorem up_rel (c1 c2 : Nat → Int64) (h : ∀ k, k ≤ 18 → c1 k = c2 k) : ∃ r1 r2, wh b_X6_turnIntoBass_54 (nI 2, c1) = some r1 ∧ wh b_X9_laysBassPoly_76 (nI 2, c2) = some r2 ∧ ∀ k, k ≤ 18 → r1 k = r2 k := by
  refine wh_rel (b1 := b_X6_turnIntoBass_54) (b2 := b_X9_laysBassPoly_76) (fun i s t => 2 ≤ i ∧ s.1 = nI i ∧ t.1 = nI i ∧ ∀ k, k ≤ 18 → s.2 k = t.2 k) (fun r1 r2 => ∀ k, k ≤ 18 → r1 k = r2 k) 19 (fun i s t hi ⟨p0, p1, p2, p3⟩ => ?_) (fun s t ⟨p0, p1, p2, p3⟩ => ?_) 2 (nI 2, c1) (nI 2, c2) (by omega) ⟨by omega, rfl, rfl, h⟩
  · obtain ⟨si, sa⟩ := s
    obtain ⟨ti, ta⟩ := t
    dsimp only at p1 p2 p3
    subst p1 p2
    unfold b_X6_turnIntoBass_54 b_X9_laysBassPoly_76
    simp (disch := omega) only [nlt, nle, if_neg, nsub, ginb, ncl, nI_add]
    rw [p3 i (by omega), p3 (i - 2) (by omega)]
    refine Or.inl ⟨_, _, rfl, rfl, by omega, rfl, rfl, fun k hk => ?_⟩
    dsimp only
    rw [updL_at, updL_at]
    by_cases hk2 : k = i
    · rw [if_pos hk2, if_pos hk2]
    · rw [if_neg hk2, if_neg hk2]; exact p3 k hk
  · unfold b_X6_turnIntoBass_54 b_X9_laysBassPoly_76
    simp (disch := omega) only [p1, p2, nlt, nle, if_pos]
    exact ⟨_, _, rfl, rfl, p3⟩
theorem down_rel (c1 c2 : Nat → Int64) (h : ∀ k, k ≤ 18 → c1 k = c2 k) : ∃ r1 r2, wh b_X6_turnIntoBass_10 (nI 18, c1) = some r1 ∧ wh b_X9_laysBassPoly_32 (nI 18, c2) = some r2 ∧ ∀ k, k ≤ 18 → r1 k = r2 k := by
  refine wh_rel (b1 := b_X6_turnIntoBass_10) (b2 := b_X9_laysBassPoly_32) (fun i s t => s.1 = nI (18 - i) ∧ t.1 = nI (18 - i) ∧ ∀ k, k ≤ 18 → s.2 k = t.2 k) (fun r1 r2 => ∀ k, k ≤ 18 → r1 k = r2 k) 17 (fun i s t hi ⟨p1, p2, p3⟩ => ?_) (fun s t ⟨p1, p2, p3⟩ => ?_) 0 (nI 18, c1) (nI 18, c2) (by omega) ⟨rfl, rfl, h⟩
  · obtain ⟨si, sa⟩ := s
    obtain ⟨ti, ta⟩ := t
    dsimp only at p1 p2 p3
    subst p1 p2
    unfold b_X6_turnIntoBass_10 b_X9_laysBassPoly_32
    simp (disch := omega) only [nlt, nle, if_neg, nsub, ginb, ncl, nm_s]
    rw [p3 (18 - i) (by omega), p3 (18 - i - 2) (by omega), dwn (by omega) (by omega), show 18 - i - 1 = 18 - (i + 1) by omega]
    refine Or.inl ⟨_, _, rfl, rfl, rfl, rfl, fun k hk => ?_⟩
    dsimp only
    rw [updL_at, updL_at]
    by_cases hk2 : k = 18 - i
    · rw [if_pos hk2, if_pos hk2]
    · rw [if_neg hk2, if_neg hk2]; exact p3 k hk
  · unfold b_X6_turnIntoBass_10 b_X9_laysBassPoly_32
    simp (disch := omega) only [p1, p2, nlt, nle, if_pos]
    exact ⟨_, _, rfl, rfl, p3⟩
theorem bass_rel {a E : Nat} (ha : a ≤ 6) (hE : E ≤ 9) (c1 c2 : Nat → Int64) (h : ∀ k, k ≤ 18 → c1 k = c2 k) : ∃ r q1 q2, f_X6_turnIntoBass (nI E - nI a) c1 = some r ∧ wh (b_X9_laysBassPoly_24 (nI E - nI a)) (nI 0, c2) = some q1 ∧ wh (b_X9_laysBassPoly_68 (nI E - nI a)) (nI 0, q1) = some q2 ∧ ∀ k, k ≤ 18 → r k = q2 k := by
  have e1 : (nI E - nI a).toInt = (E : Int) - a := pk_sub_toInt (by omega) (by omega)
  have e2 : (-(nI E - nI a)).toInt = (a : Int) - E := by
    rw [Int32.neg_sub]
    exact pk_sub_toInt (by omega) (by omega)
  generalize nI E - nI a = p at e1 e2
  obtain ⟨r1, r2, w1, w2, hQ⟩ := wh_rel (b1 := b_X6_turnIntoBass_2 p) (b2 := b_X9_laysBassPoly_24 p) (fun i s t => s.1 = nI i ∧ t.1 = nI i ∧ ∀ k, k ≤ 18 → s.2 k = t.2 k) (fun r1 r2 => ∀ k, k ≤ 18 → r1 k = r2 k) 9 (fun i s t hi ⟨p1, p2, p3⟩ => by
    obtain ⟨si, sa⟩ := s
    obtain ⟨ti, ta⟩ := t
    dsimp only at p1 p2 p3
    subst p1 p2
    unfold b_X6_turnIntoBass_2 b_X9_laysBassPoly_24
    dsimp only
    by_cases hc : p ≤ nI i
    · rw [if_pos hc, if_pos hc]
      exact Or.inr ⟨_, _, rfl, rfl, p3⟩
    · obtain ⟨q1, q2, v1, v2, v3⟩ := down_rel sa ta p3
      rw [if_neg hc, if_neg hc, bd_t v1, bd_t v2, nI_add]
      exact Or.inl ⟨_, _, rfl, rfl, rfl, rfl, v3⟩) (fun s t ⟨p1, p2, p3⟩ => by
    have hc : p ≤ nI 9 := by rw [Int32.le_iff_toInt_le, e1, nI_toInt (by omega)]; omega
    unfold b_X6_turnIntoBass_2 b_X9_laysBassPoly_24
    rw [p1, p2, if_pos hc, if_pos hc]
    exact ⟨_, _, rfl, rfl, p3⟩) 0 (nI 0, c1) (nI 0, c2) (by omega) ⟨rfl, rfl, h⟩
  obtain ⟨r3, r4, w3, w4, hQ2⟩ := wh_rel (b1 := b_X6_turnIntoBass_46 p) (b2 := b_X9_laysBassPoly_68 p) (fun i s t => s.1 = nI i ∧ t.1 = nI i ∧ ∀ k, k ≤ 18 → s.2 k = t.2 k) (fun r1 r2 => ∀ k, k ≤ 18 → r1 k = r2 k) 9 (fun i s t hi ⟨p1, p2, p3⟩ => by
    obtain ⟨si, sa⟩ := s
    obtain ⟨ti, ta⟩ := t
    dsimp only at p1 p2 p3
    subst p1 p2
    unfold b_X6_turnIntoBass_46 b_X9_laysBassPoly_68
    dsimp only
    by_cases hc : -p ≤ nI i
    · rw [if_pos hc, if_pos hc]
      exact Or.inr ⟨_, _, rfl, rfl, p3⟩
    · obtain ⟨q1, q2, v1, v2, v3⟩ := up_rel sa ta p3
      rw [if_neg hc, if_neg hc, bd_t v1, bd_t v2, nI_add]
      exact Or.inl ⟨_, _, rfl, rfl, rfl, rfl, v3⟩) (fun s t ⟨p1, p2, p3⟩ => by
    have hc : -p ≤ nI 9 := by rw [Int32.le_iff_toInt_le, e2, nI_toInt (by omega)]; omega
    unfold b_X6_turnIntoBass_46 b_X9_laysBassPoly_68
    rw [p1, p2, if_pos hc, if_pos hc]
    exact ⟨_, _, rfl, rfl, p3⟩) 0 (nI 0, r1) (nI 0, r2) (by omega) ⟨rfl, rfl, hQ⟩
  unfold f_X6_turnIntoBass
  rw [bd_t w1, bd_t w3]
  exact ⟨_, _, _, rfl, w2, w4, hQ2⟩
theorem pr_bassCoefficient : Pr_bassCoefficient := by
  intro I J K L C Mm p1 hI
  obtain ⟨hg, hh, ht⟩ := id hI
  obtain ⟨a, E, x, y, hG⟩ := gr_GA hg
  have ga := hG.2.1
  have gE := hG.2.2.1
  have k0 : K 0 = nI a := hG.2.2.2.1
  have k1 : K 1 = nI E := hG.2.2.2.2.1
  have n0 : I 10 0 = nI a := hG.2.2.2.2.2.1
  have n1 : I 10 1 = nI E := hG.2.2.2.2.2.2.1
  unfold f_X8_bassCoefficient f_X9_bassCoefficient f_X9_laysBassPoly
  rcases c_index p1 with ⟨l1, l2⟩ | ⟨m, m2, rfl, l1, l2⟩
  · rw [l1, l2, bd_s, bd_s, if_pos (show (nI 0 : Int32) = 0 by decide), if_pos (show (nI 0 : Int32) = 0 by decide)]
    exact ⟨_, _, rfl, rfl, rfl, hg, hh, ht⟩
  · rw [l1, l2, bd_s, bd_s, if_neg (show ¬ (nI 1 : Int32) = 0 by decide), if_neg (show ¬ (nI 1 : Int32) = 0 by decide)]
    obtain ⟨r, c1, c2⟩ := c_makeFromV hG (J 8) Mm
    obtain ⟨r2, d1, d2⟩ := m_laysVertices hG (K 11) (K 12) (K 13) (K 14) (J 9)
    obtain ⟨r3, d3, d4⟩ := m_laysPoly2 (N := a + a) (by omega) (K 11) (K 12) (K 13) r2 (J 12) (J 13) (J 14) (J 15) (J 16) (VM x y E a) d2
    obtain ⟨z, z1, z2, e1, e2, e3, e4⟩ := bass_rel ga gE r.1 r3.1 (fun k hk => (c2 k hk).trans (d4 k (by omega)).symm)
    rw [bd_t c1, bd_t d1, bd_t d3]
    simp (disch := omega) only [ginb, ncl, n0, n1, nm_s, k0, k1]
    rw [bd_t e1, bd_t e2, bd_t e3, bd_s]
    simp (disch := omega) only [ginb, ncl]
    exact ⟨_, _, rfl, rfl, e4 m m2, hg, hh, ht⟩
