variable {v e : Int32} {f s n now : Nat → Int32} {a E : Nat} {x y : Nat → Nat}
/-- the index that runs down from 17 -/
def dn17 (j : Nat) : Int32 := if j ≤ 17 then nI (17 - j) else nI 4294967295
theorem dn17_s {j : Nat} (h : j ≤ 17) : nI (17 - j) + nI 4294967295 = dn17 (j + 1) := by
  unfold dn17
  by_cases h2 : j + 1 ≤ 17
  · rw [if_pos h2, dwn (by omega) (by omega), show 17 - j - 1 = 17 - (j + 1) by omega]
  · rw [if_neg h2, show 17 - j = 0 by omega, nI_0, Int32.zero_add]
theorem dn17_lt {i j : Nat} (hi : i ≤ 18) (hj : j = 18 - i) : dn17 j < nI i := by
  unfold dn17
  by_cases h2 : j ≤ 17
  · rw [if_pos h2, nlt (by omega) (by omega)]; omega
  · rw [if_neg h2, show i = 0 by omega]; decide
theorem tay_rel {m : Nat} (hm : m ≤ 18) (c1 c2 : Nat → Int64) (h : ∀ k, k ≤ 18 → c1 k = c2 k) : ∃ r1 r2, wh (b_X0_coefficientAroundOne_17 (nI m)) (nI 0, c1) = some r1 ∧ wh (b_X9_taylorAtOne_20 (nI m)) (nI 0, c2) = some r2 ∧ ∀ k, k ≤ 18 → r1 k = r2 k := by
  refine wh_rel (b1 := b_X0_coefficientAroundOne_17 (nI m)) (b2 := b_X9_taylorAtOne_20 (nI m)) (fun i s t => s.1 = nI i ∧ t.1 = nI i ∧ ∀ k, k ≤ 18 → s.2 k = t.2 k) (fun r1 r2 => ∀ k, k ≤ 18 → r1 k = r2 k) (m + 1) (fun i s t hi ⟨p1, p2, p3⟩ => ?_) (fun s t ⟨p1, p2, p3⟩ => ?_) 0 (nI 0, c1) (nI 0, c2) (by omega) ⟨rfl, rfl, h⟩
  · obtain ⟨si, sa⟩ := s
    obtain ⟨ti, ta⟩ := t
    dsimp only at p1 p2 p3
    subst p1 p2
    have hw := wh_rel (b1 := b_X0_coefficientAroundOne_25 (nI i, sa)) (b2 := b_X9_taylorAtOne_28 (nI i, ta)) (fun j u w => u.1 = dn17 j ∧ w.1 = dn17 j ∧ ∀ k, k ≤ 18 → u.2 k = w.2 k) (fun r1 r2 => ∀ k, k ≤ 18 → r1 k = r2 k) (18 - i) (fun j u w hj ⟨q1, q2, q3⟩ => by
      obtain ⟨ui, ua⟩ := u
      obtain ⟨wi, wa⟩ := w
      dsimp only at q1 q2 q3
      subst q1 q2
      have e1 : dn17 j = nI (17 - j) := by unfold dn17; rw [if_pos (by omega)]
      have g1 : ¬ nI (17 - j) < nI i := by rw [nlt (by omega) (by omega)]; omega
      unfold b_X0_coefficientAroundOne_25 b_X9_taylorAtOne_28
      have e2 : nI (17 - j) + nI 1 = nI (17 - j + 1) := nI_add _ _
      simp only [e1, if_neg g1, e2, dn17_s (show j ≤ 17 by omega), nm_s]
      rw [ginb (by omega) (by omega), ginb (by omega) (by omega), ginb (by omega) (by omega), ginb (by omega) (by omega), ginb (by omega) (by omega), ginb (by omega) (by omega), ncl (by omega), ncl (by omega), q3 _ (by omega), q3 (17 - j + 1) (by omega)]
      refine Or.inl ⟨_, _, rfl, rfl, rfl, rfl, fun k hk => ?_⟩
      dsimp only
      rw [updL_at, updL_at]
      by_cases hk2 : k = 17 - j
      · rw [if_pos hk2, if_pos hk2]
      · rw [if_neg hk2, if_neg hk2]; exact q3 k hk) (fun u w ⟨q1, q2, q3⟩ => by
      obtain ⟨ui, ua⟩ := u
      obtain ⟨wi, wa⟩ := w
      dsimp only at q1 q2 q3
      subst q1 q2
      unfold b_X0_coefficientAroundOne_25 b_X9_taylorAtOne_28
      simp only [if_pos (dn17_lt (show i ≤ 18 by omega) rfl)]
      exact ⟨_, _, rfl, rfl, q3⟩) 0 (nI 17, sa) (nI 17, ta) (by omega) ⟨rfl, rfl, p3⟩
    obtain ⟨r1, r2, w1, w2, hQ⟩ := hw
    have g1 : ¬ nI m < nI i := by rw [nlt (by omega) (by omega)]; omega
    unfold b_X0_coefficientAroundOne_17 b_X9_taylorAtOne_20
    simp only [if_neg g1]
    rw [bd_t w1, bd_t w2, nI_add]
    exact Or.inl ⟨_, _, rfl, rfl, rfl, rfl, hQ⟩
  · have g1 : nI m < nI (m + 1) := by rw [nlt (by omega) (by omega)]; omega
    unfold b_X0_coefficientAroundOne_17 b_X9_taylorAtOne_20
    rw [p1, p2, if_pos g1, if_pos g1]
    exact ⟨_, _, rfl, rfl, p3⟩
theorem pr_taylorAtOne : Pr_taylorAtOne := by
  intro I J K L C Mm p1 hI
  obtain ⟨hg, hh, ht⟩ := id hI
  obtain ⟨a, E, x, y, hG⟩ := gr_GA hg
  unfold f_X8_taylorAtOne f_X9_taylorAtOne f_X8_makeEdgePolynomial f_X7_countClosed f_X9_laysEdgePoly f_X0_coefficientAroundOne
  rcases c_index p1 with ⟨l1, l2⟩ | ⟨m, m2, rfl, l1, l2⟩
  · rw [l1, l2, bd_s, bd_s, if_pos (show (nI 0 : Int32) = 0 by decide), if_pos (show (nI 0 : Int32) = 0 by decide)]
    exact ⟨_, _, rfl, rfl, rfl, hg, hh, ht⟩
  · rw [l1, l2, bd_s, bd_s, if_neg (show ¬ (nI 1 : Int32) = 0 by decide), if_neg (show ¬ (nI 1 : Int32) = 0 by decide)]
    obtain ⟨r, c1, c2⟩ := c_addReturns hG (w := 0) (by omega) (J 4) (J 5) (J 0)
    obtain ⟨r2, c3, c4⟩ := c_edge hG 0 (J 6) r.2.2 c2
    obtain ⟨A, r3, d1, d2, d3⟩ := m_edge hG (w := 0) (by omega) (K 11) (K 12) (K 13) (K 14) (J 9) (J 12) (J 13) (J 14) (J 15) (J 16)
    rw [bd_t c1, bd_s, bd_t c3, bd_s, bd_t d1, bd_t d2, bd_s]
    obtain ⟨z1, z2, e1, e2, e3⟩ := tay_rel m2 (va_cpy r2 (J 7) 0 0 19) r3.1 (fun k hk => by
      rw [← (c4 k hk).trans (d3 k hk).symm]
      unfold va_cpy
      simp (disch := omega) only [if_pos, Nat.sub_zero, Nat.add_zero, Nat.zero_add]
      )
    rw [bd_t e1, bd_t e2, ginb (by omega) (by omega), ginb (by omega) (by omega), ncl (by omega)]
    exact ⟨_, _, rfl, rfl, e3 m m2, hg, hh, ht⟩
