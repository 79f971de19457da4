variable {v e : Int32} {f s n now : Nat → Int32} {a E : Nat} {x y : Nat → Nat}
theorem dwn {i : Nat} (h1 : 1 ≤ i) (h2 : i < 2 ^ 31) : nI i + nI 4294967295 = nI (i - 1) := by
  have e1 : nI 4294967295 = - nI 1 := by decide
  rw [e1, ← Int32.sub_eq_add_neg, nsub h1]
theorem cmp0 (z : Int) (h1 : -2 ^ 63 ≤ z) (h2 : z < 2 ^ 63) : (lg_cmp (iL z) (0 : Int64) = 0) ↔ z = 0 := by
  have e1 : (iL z).toInt = z := Int64.toInt_ofInt_of_le h1 h2
  have e2 : (iL z = 0) ↔ z = 0 := by
    constructor
    · intro h
      rw [h] at e1
      rw [← e1]; decide
    · intro h; rw [h]; rfl
  rw [← e2]
  unfold lg_cmp
  constructor
  · intro h
    by_cases c1 : iL z > 0
    · rw [if_pos c1] at h; exact absurd h (by decide)
    · rw [if_neg c1] at h
      by_cases c2 : iL z = 0
      · exact c2
      · rw [if_neg c2] at h; exact absurd h (by decide)
  · intro h
    rw [h]; decide
theorem dg_rel (c1 c2 : Nat → Int64) (q : Int32 × (Nat → Int64) × (Nat → Int64) × (Nat → Int64) × (Nat → Int64) × (Nat → Int64) × (Nat → Int64)) (hq : q.2.2.1 = c2) (P : Nat → Int) (hb : ∀ k, -2 ^ 63 ≤ P k ∧ P k < 2 ^ 63) (h0 : P 0 = 1) (h1 : ∀ k, k ≤ 18 → c1 k = iL (P k)) (h2 : ∀ k, k ≤ 18 → c2 k = iL (P k)) : ∃ r, f_X0_highestPower c1 = some r ∧ wh (b_X9_edgeDegree_7 q) (nI 18) = some r := by
  obtain ⟨r1, r2, w1, w2, hQ⟩ := wh_rel (b1 := b_X0_highestPower_3 c1) (b2 := b_X9_edgeDegree_7 q) (fun i s t => s = nI (18 - i) ∧ t = nI (18 - i)) (fun r1 r2 => (r1 = Sum.inl r2) ∨ (r1 = Sum.inr () ∧ r2 = nI 0)) 18 (fun i s t hi ⟨p1, p2⟩ => by
    subst p1 p2
    have g1 : ¬ nI (18 - i) ≤ 0 := by rw [nle0 (by omega)]; omega
    obtain ⟨b1, b2⟩ := hb (18 - i)
    unfold b_X0_highestPower_3 b_X9_edgeDegree_7
    rw [if_neg g1]
    simp (disch := omega) only [ginb, ncl, hq, nm_s]
    rw [h1 _ (by omega), h2 _ (by omega)]
    by_cases hz : P (18 - i) = 0
    · have hz' := (cmp0 _ b1 b2).mpr hz
      rw [if_pos hz', if_pos hz', dwn (by omega) (by omega), show 18 - i - 1 = 18 - (i + 1) by omega]
      exact Or.inl ⟨_, _, rfl, rfl, rfl, rfl⟩
    · have hz' : ¬ lg_cmp (iL (P (18 - i))) 0 = 0 := fun h => hz ((cmp0 _ b1 b2).mp h)
      rw [if_neg hz', if_neg hz']
      exact Or.inr ⟨_, _, rfl, rfl, Or.inl rfl⟩) (fun s t ⟨p1, p2⟩ => by
    subst p1 p2
    obtain ⟨b1, b2⟩ := hb 0
    unfold b_X0_highestPower_3 b_X9_edgeDegree_7
    rw [show (18 : Nat) - 18 = 0 from rfl, if_pos (show nI 0 ≤ 0 by decide)]
    simp (disch := omega) only [ginb, ncl, hq]
    rw [h2 0 (by omega)]
    have hz' : ¬ lg_cmp (iL (P 0)) 0 = 0 := fun h => by
      have := (cmp0 _ b1 b2).mp h
      omega
    rw [if_neg hz']
    exact ⟨_, _, rfl, rfl, Or.inr ⟨rfl, rfl⟩⟩) 0 (nI 18) (nI 18) (by omega) ⟨rfl, rfl⟩
  unfold f_X0_highestPower
  rw [bd_t w1]
  rcases hQ with rfl | ⟨rfl, rfl⟩
  · exact ⟨_, rfl, w2⟩
  · exact ⟨_, rfl, w2⟩
theorem pr_edgeDegree : Pr_edgeDegree := by
  intro I J K L C Mm hI
  obtain ⟨hg, hh, ht⟩ := id hI
  obtain ⟨a, E, x, y, hG⟩ := gr_GA hg
  unfold f_X8_edgeDegree f_X9_edgeDegree f_X8_makeEdgePolynomial f_X7_countClosed f_X9_laysEdgePoly
  obtain ⟨r, c1, c2⟩ := c_addReturns hG (w := 0) (by omega) (J 4) (J 5) (J 0)
  obtain ⟨r2, c3, c4⟩ := c_edge hG 0 (J 6) r.2.2 c2
  obtain ⟨A, r3, d1, d2, d3⟩ := m_edge hG (w := 0) (by omega) (K 11) (K 12) (K 13) (K 14) (J 9) (J 12) (J 13) (J 14) (J 15) (J 16)
  rw [bd_t c1, bd_s, bd_t c3, bd_s, bd_t d1, bd_t d2, bd_s]
  obtain ⟨z, e1, e2⟩ := dg_rel r2 r3.1 (nI (2 * E), A, r3.1, r3.2.1, r3.2.2.1, r3.2.2.2.1, r3.2.2.2.2) rfl (EP x y (sgW 0 (I 2)) E) (fun k => by have := EP_bd hG 0 k; omega) (cc_0 _ _) c4 d3
  rw [bd_t e1, bd_t e2]
  exact ⟨_, _, rfl, rfl, rfl, hg, hh, ht⟩
