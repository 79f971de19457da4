variable {v e : Int32} {f s n now : Nat → Int32} {a E : Nat} {x y : Nat → Nat}
theorem mp_congr {N : Nat} {A B : Nat → Nat → Int} (h : ∀ i j, i < N → j < N → A i j = B i j) (m : Nat) : ∀ i j, i < N → j < N → mp N A m i j = mp N B m i j := by
  induction m with
  | zero => exact h
  | succ m ih =>
    intro i j hi hj
    show sm N (fun k => mp N A m i k * A k j) = sm N (fun k => mp N B m i k * B k j)
    exact sm_congr (fun k hk => by rw [ih i k hi hk, h k j hk hj])
/-- the matrix within its bounds, nothing beyond -/
noncomputable def Ac (x y : Nat → Nat) (σ : Nat → Int) (E i j : Nat) : Int := if i < 2 * E ∧ j < 2 * E then MM x y σ i j else 0
theorem Ac_in (x y : Nat → Nat) (σ : Nat → Int) (E : Nat) : ∀ i j, i < 2 * E → j < 2 * E → Ac x y σ E i j = MM x y σ i j := fun i j hi hj => if_pos ⟨hi, hj⟩
theorem nxt_irr (hG : GA v e f s n now 0 a E x y) {i : Nat} (hi : i < 2 * E) : ¬ nxt x y i i := by
  intro h
  have h1 := h.1
  have h2 := (hG.2.2.2.2.2.2.2 (i / 2) (by omega)).2.2.1
  unfold hd tl at h1
  by_cases c : i % 2 = 0
  · rw [if_pos c, if_pos c] at h1; exact h2 h1.symm
  · rw [if_neg c, if_neg c] at h1; exact h2 h1
theorem Ac_Sml (hG : GA v e f s n now 0 a E x y) (w : Nat) : Sml (Ac x y (sgW w n) E) := by
  constructor
  · intro i j
    unfold Ac
    by_cases h : i < 2 * E ∧ j < 2 * E
    · rw [if_pos h]
      unfold MM bb
      have h1 := sgW_pm hG w (i / 2) (by omega)
      by_cases c : nxt x y i j
      · rw [if_pos c, Int.one_mul]; omega
      · rw [if_neg c, Int.zero_mul]; omega
    · rw [if_neg h]; omega
  · intro i
    unfold Ac
    by_cases h : i < 2 * E ∧ i < 2 * E
    · rw [if_pos h]
      unfold MM bb
      rw [if_neg (nxt_irr hG h.1), Int.zero_mul]
    · rw [if_neg h]
theorem fc_le : ∀ k, k < 19 → fc k ≤ 6402373705728000 := by decide
/-- the coefficients of the edge polynomial, plain or signed -/
noncomputable def EP (x y : Nat → Nat) (σ : Nat → Int) (E : Nat) : PS := cc (Ac x y σ E) (2 * E)
theorem EP_bd (hG : GA v e f s n now 0 a E x y) (w k : Nat) : -6402373705728000 ≤ EP x y (sgW w n) E k ∧ EP x y (sgW w n) E k ≤ 6402373705728000 := by
  have h1 := ((deg_bd (2 * E) _ (Ac_Sml hG w)).1) k
  have h2 := fc_le (2 * E) (by have := hG.2.2.1; omega)
  have h3 : EP x y (sgW w n) E k = cc (Ac x y (sgW w n) E) (2 * E) k := rfl
  omega
theorem c_edge (hG : GA v e f s n now 0 a E x y) (w : Nat) (cs t : Nat → Int64) (ht : ∀ m, 1 ≤ m → m ≤ 18 → t m = iL (rt x y (sgW w n) E E m)) : ∃ r, f_X0_makeFrom cs 19 t = some r ∧ ∀ k, k ≤ 18 → r k = iL (EP x y (sgW w n) E k) := by
  refine c_makeFrom (cc_newton (Ac x y (sgW w n) E) (2 * E)) (by rw [Tz_co, if_pos rfl]) (cc_0 _ _) (fun k hk => ?_) cs t (fun m h1 h2 => ?_)
  · have h := EP_bd hG w k
    have h3 : EP x y (sgW w n) E k = cc (Ac x y (sgW w n) E) (2 * E) k := rfl
    rw [← h3]
    have e1 : (k : Int) * EP x y (sgW w n) E k ≤ (k : Int) * 6402373705728000 := Int.mul_le_mul_of_nonneg_left h.2 (by omega)
    have e2 : (k : Int) * (-6402373705728000) ≤ (k : Int) * EP x y (sgW w n) E k := Int.mul_le_mul_of_nonneg_left h.1 (by omega)
    omega
  · rw [ht m h1 h2, ← rt_eq hG, Tz_co, if_neg (by omega)]
    congr 1
    refine sm_congr (fun i hi => ?_)
    obtain ⟨m', rfl⟩ : ∃ m', m = m' + 1 := ⟨m - 1, by omega⟩
    exact (mp_congr (Ac_in x y (sgW w n) E) m' i i hi hi).symm
theorem m_edge (hG : GA v e f s n now 0 a E x y) {w : Nat} (hw2 : w < 2) (q1 q2 q3 q4 : Int32) (mat po ol st co mo : Nat → Int64) : ∃ A r, f_X9_laysEdges (nI w) q1 q2 q3 q4 now mat = some (nI (2 * E), A) ∧ f_X9_laysPoly q1 q2 q3 (nI (2 * E)) A po ol st co mo = some r ∧ ∀ k, k ≤ 18 → r.1 k = iL (EP x y (sgW w n) E k) := by
  obtain ⟨A, h1, h2⟩ := m_laysEdges hG hw2 q1 q2 q3 q4 mat
  have hE := hG.2.2.1
  obtain ⟨r, h3, h4⟩ := m_laysPoly (N := 2 * E) (by omega) q1 q2 q3 A po ol st co mo _ (Ac_Sml hG w) (fun i j hi hj => by rw [h2 i j hi hj, Ac_in x y (sgW w n) E i j hi hj])
  exact ⟨A, r, h1, h3, fun k hk => h4 k (by omega)⟩
theorem c_index (p : Int32) : (f_X8_isIndex p (nI 18) = some (nI 0) ∧ f_X9_in p (nI 0) (nI 18) = some (nI 0)) ∨ (∃ m, m ≤ 18 ∧ p = nI m ∧ f_X8_isIndex p (nI 18) = some (nI 1) ∧ f_X9_in p (nI 0) (nI 18) = some (nI 1)) := by
  unfold f_X8_isIndex f_X9_in
  rw [nI_0]
  rcases rng_lh p 0 18 (by omega) (by omega) with ⟨h1, h2⟩ | ⟨h1, h2⟩ | ⟨b, h1, h2, rfl⟩
  · rw [nI_0] at h1
    rw [if_pos h1]; exact Or.inl ⟨rfl, rfl⟩
  · rw [nI_0] at h1
    rw [if_neg h1, if_pos h2]; exact Or.inl ⟨rfl, rfl⟩
  · have c1 : ¬ nI b < 0 := by rw [← nI_0, nlt (by omega) (by omega)]; omega
    have c2 : ¬ nI 18 < nI b := by rw [nlt (by omega) (by omega)]; omega
    rw [if_neg c1, if_neg c2]; exact Or.inr ⟨b, h2, rfl, rfl, rfl⟩
theorem pr_edgeCoefficient : Pr_edgeCoefficient := by
  intro I J K L C Mm p1 hI
  obtain ⟨hg, hh, ht⟩ := id hI
  obtain ⟨a, E, x, y, hG⟩ := gr_GA hg
  unfold f_X8_edgeCoefficient f_X9_edgeCoefficient f_X8_makeEdgePolynomial f_X7_countClosed f_X9_laysEdgePoly
  rcases c_index p1 with ⟨l1, l2⟩ | ⟨m, m2, rfl, l1, l2⟩
  · rw [l1, l2, bd_s, bd_s, if_pos (show (nI 0 : Int32) = 0 by decide), if_pos (show (nI 0 : Int32) = 0 by decide)]
    exact ⟨_, _, rfl, rfl, rfl, hg, hh, ht⟩
  · rw [l1, l2, bd_s, bd_s, if_neg (show ¬ (nI 1 : Int32) = 0 by decide), if_neg (show ¬ (nI 1 : Int32) = 0 by decide)]
    obtain ⟨r, c1, c2⟩ := c_addReturns hG (w := 0) (by omega) (J 4) (J 5) (J 0)
    obtain ⟨r2, c3, c4⟩ := c_edge hG 0 (J 6) r.2.2 c2
    obtain ⟨A, r3, d1, d2, d3⟩ := m_edge hG (w := 0) (by omega) (K 11) (K 12) (K 13) (K 14) (J 9) (J 12) (J 13) (J 14) (J 15) (J 16)
    rw [bd_t c1, bd_s, bd_t c3, bd_s, bd_t d1, bd_t d2, bd_s, ginb (by omega) (by omega), ginb (by omega) (by omega), ncl (by omega)]
    exact ⟨_, _, rfl, rfl, (c4 m m2).trans (d3 m m2).symm, hg, hh, ht⟩
theorem pr_signedCoefficient : Pr_signedCoefficient := by
  intro I J K L C Mm p1 hI
  obtain ⟨hg, hh, ht⟩ := id hI
  obtain ⟨a, E, x, y, hG⟩ := gr_GA hg
  unfold f_X8_signedCoefficient f_X9_signedCoefficient f_X7_countClosedSigned
  rcases c_index p1 with ⟨l1, l2⟩ | ⟨m, m2, rfl, l1, l2⟩
  · rw [l1, l2, bd_s, bd_s, if_pos (show (nI 0 : Int32) = 0 by decide), if_pos (show (nI 0 : Int32) = 0 by decide)]
    exact ⟨_, _, rfl, rfl, rfl, hg, hh, ht⟩
  · rw [l1, l2, bd_s, bd_s, if_neg (show ¬ (nI 1 : Int32) = 0 by decide), if_neg (show ¬ (nI 1 : Int32) = 0 by decide)]
    obtain ⟨r, c1, c2⟩ := c_addReturns hG (w := 1) (by omega) (J 4) (J 5) (J 1)
    obtain ⟨r2, c3, c4⟩ := c_edge hG 1 (J 6) r.2.2 c2
    obtain ⟨A, r3, d1, d2, d3⟩ := m_edge hG (w := 1) (by omega) (K 11) (K 12) (K 13) (K 14) (J 9) (J 12) (J 13) (J 14) (J 15) (J 16)
    rw [bd_t c1, bd_s, bd_t c3, bd_t d1, bd_t d2, ginb (by omega) (by omega), ginb (by omega) (by omega), ncl (by omega)]
    exact ⟨_, _, rfl, rfl, (c4 m m2).trans (d3 m m2).symm, hg, hh, ht⟩
