theorem rng_lh (p : Int32) (lo hi : Nat) (h : hi < 2 ^ 31) (hl : lo ≤ hi) : (p < nI lo ∧ ¬ nI hi < p) ∨ (¬ p < nI lo ∧ nI hi < p) ∨ ∃ b, lo ≤ b ∧ b ≤ hi ∧ p = nI b := by
  have e1 : (nI lo).toInt = lo := nI_toInt (by omega)
  have e2 : (nI hi).toInt = hi := nI_toInt h
  simp only [Int32.lt_iff_toInt_lt, e1, e2]
  by_cases h1 : p.toInt < lo
  · exact Or.inl ⟨h1, by omega⟩
  · by_cases h2 : (hi : Int) < p.toInt
    · exact Or.inr (Or.inl ⟨h1, h2⟩)
    · refine Or.inr (Or.inr ⟨p.toInt.toNat, by omega, by omega, Int32.toInt_inj.mp ?_⟩)
      rw [nI_toInt (by omega)]
      omega
theorem not_le_of {p q : Int32} (h : q < p) : ¬ p ≤ q := by
  rw [Int32.lt_iff_toInt_lt] at h
  rw [Int32.le_iff_toInt_le]
  omega
theorem le_of_not {p q : Int32} (h : ¬ q < p) : p ≤ q := by
  rw [Int32.lt_iff_toInt_lt] at h
  rw [Int32.le_iff_toInt_le]
  omega
theorem pr_clearText : Pr_clearText := by
  intro I J K L C Mm hI
  obtain ⟨hg, hh, t, t1, t2, t3, t4⟩ := id hI
  exact ⟨(K 5, nI 0), (K 12, nI 0), rfl, rfl, t2.trans t3.symm, hg, hh, 0, by omega, rfl, rfl, fun k hk => absurd hk (Nat.not_lt_zero k)⟩
theorem pr_appendCharacter : Pr_appendCharacter := by
  intro I J K L C Mm p1 hI
  obtain ⟨hg, hh, t, t1, t2, t3, t4⟩ := id hI
  unfold f_X8_appendCharacter f_X9_appendCharacter f_X9_in
  rw [t2, t3]
  rcases rng_lh p1 0 255 (by omega) (by omega) with ⟨h1, h2⟩ | ⟨h1, h2⟩ | ⟨b, h1, h2, rfl⟩
  · have h1' : p1 < 0 := by have h := h1; rw [nI_0] at h; exact h
    have hc : ¬ (nI 0 : Int32) ≤ p1 := not_le_of h1
    simp only [if_pos h1', if_pos h1, bd_s, if_pos (show (nI 0 : Int32) = 0 by decide)]
    exact ⟨_, _, rfl, rfl, rfl, hg, hh, t, t1, rfl, rfl, t4⟩
  · have h1' : ¬ p1 < 0 := by have h := h1; rw [nI_0] at h; exact h
    have hc : ¬ p1 ≤ (nI 255 : Int32) := not_le_of h2
    simp only [if_neg h1', if_neg h1, if_pos h2, if_neg hc, bd_s, if_pos (show (nI 0 : Int32) = 0 by decide)]
    exact ⟨_, _, rfl, rfl, rfl, hg, hh, t, t1, rfl, rfl, t4⟩
  · have c1 : ¬ nI b < nI 0 := by rw [nlt (by omega) (by omega)]; omega
    have c1' : ¬ nI b < 0 := by have h := c1; rw [nI_0] at h; exact h
    have c2 : ¬ nI 255 < nI b := by rw [nlt (by omega) (by omega)]; omega
    have c3 : nI b ≤ nI 255 := le_of_not c2
    by_cases ht : t < 60
    · have d1 : nI t < nI 60 := by rw [nlt (by omega) (by omega)]; exact ht
      have d2 : ¬ nI t = nI 60 := by rw [neq (by omega) (by omega)]; omega
      have d3 : ¬ nI 60 ≤ nI t := by rw [nle (by omega) (by omega)]; omega
      unfold f_X1_append
      simp only [if_neg c1', if_neg c1, if_neg c2, if_pos c3, bd_s, if_neg (show ¬ (nI 1 : Int32) = 0 by decide), if_pos d1, if_neg d2, if_neg d3, ginb ht (show 60 < 2 ^ 31 by omega), nI_add, ncl (show t < 2 ^ 31 by omega)]
      refine ⟨_, _, rfl, rfl, rfl, hg, hh, t + 1, by omega, rfl, rfl, fun k hk => ?_⟩
      show upd (I 6) t (nI b) k = upd (I 13) t (nI b) k
      simp only [upd_at]
      by_cases e : k = t
      · rw [if_pos e, if_pos e]
      · rw [if_neg e, if_neg e]; exact t4 k (by omega)
    · have d1 : ¬ nI t < nI 60 := by rw [nlt (by omega) (by omega)]; omega
      have d2 : nI t = nI 60 := by rw [neq (by omega) (by omega)]; omega
      simp only [if_neg c1', if_neg c1, if_neg c2, if_pos c3, bd_s, if_neg (show ¬ (nI 1 : Int32) = 0 by decide), if_neg d1, if_pos d2]
      exact ⟨_, _, rfl, rfl, rfl, hg, hh, t, t1, rfl, rfl, t4⟩
theorem pr_configure : Pr_configure := by
  intro I J K L C Mm p1 hI
  obtain ⟨hg, hh, ht⟩ := id hI
  obtain ⟨c, k4, k11, hs⟩ := InvH_iff.mp hh
  obtain ⟨a, E, x, y, hG⟩ := gr_GA hg
  have h0 : I 10 0 = K 0 := hG.2.2.2.2.2.1.trans hG.2.2.2.1.symm
  unfold f_X8_configure f_X9_configure f_X9_in
  rcases rng_lh p1 1 6 (by omega) (by omega) with ⟨h1, h2⟩ | ⟨h1, h2⟩ | ⟨b, h1, h2, rfl⟩
  · have hc : ¬ (nI 1 : Int32) ≤ p1 := not_le_of h1
    simp only [if_pos h1, bd_s, if_pos (show (nI 0 : Int32) = 0 by decide)]
    exact ⟨_, _, rfl, rfl, rfl, hg, hh, ht⟩
  · have hc : ¬ p1 ≤ (nI 6 : Int32) := not_le_of h2
    simp only [if_neg h1, if_pos h2, if_neg hc, bd_s, if_pos (show (nI 0 : Int32) = 0 by decide)]
    exact ⟨_, _, rfl, rfl, rfl, hg, hh, ht⟩
  · have c1 : ¬ nI b < nI 1 := by rw [nlt (by omega) (by omega)]; omega
    have c2 : ¬ nI 6 < nI b := by rw [nlt (by omega) (by omega)]; omega
    have c3 : nI b ≤ nI 6 := le_of_not c2
    obtain ⟨c', L', C', past', s1, s2, s3⟩ := save_both hs hg (K 12) (K 13) (K 14)
    simp only [if_neg c1, if_neg c2, if_pos c3, bd_s, if_neg (show ¬ (nI 1 : Int32) = 0 by decide), k4, k11]
    rw [bd_t s1, bd_t s2]
    simp (disch := omega) only [ginb, ncl, nm_s]
    unfold f_X2_makeEmpty
    rw [bd_s]
    refine ⟨_, _, rfl, rfl, h0.symm, ⟨b, 0, h1, h2, by omega, rfl, rfl, ?_, ?_, fun k hk => absurd hk (Nat.not_lt_zero k)⟩, InvH_iff.mpr ⟨c', rfl, rfl, s3⟩, ht⟩
    · show upd (upd (I 10) 0 (nI b)) 1 (nI 0) 0 = nI b
      simp [upd_at]
    · show upd (upd (I 10) 0 (nI b)) 1 (nI 0) 1 = nI 0
      simp [upd_at]
theorem pr_flipSign : Pr_flipSign := by
  intro I J K L C Mm p1 hI
  obtain ⟨hg, hh, ht⟩ := id hI
  obtain ⟨c, k4, k11, hs⟩ := InvH_iff.mp hh
  obtain ⟨a, E, x, y, hG⟩ := gr_GA hg
  have hE : E ≤ 9 := hG.2.2.1
  have h1 : I 10 1 = nI E := hG.2.2.2.2.2.2.1
  have hK : K 1 = nI E := hG.2.2.2.2.1
  unfold f_X8_flipSign f_X9_flipSign
  rw [show f_X2_hasEdge p1 (K 0) (K 1) = some (rng p1 E) by rw [hK]; exact c_hasEdge (by omega), m_isEdge (by omega) h1, bd_s, bd_s]
  rcases rng_cases p1 (n := E) (by omega) with h | ⟨h, j, hj, rfl⟩
  · rw [h, if_pos (by decide), if_pos (by decide)]
    exact ⟨_, _, rfl, rfl, rfl, hg, hh, ht⟩
  · obtain ⟨c', L', C', past', s1, s2, s3⟩ := save_both hs hg (K 12) (K 13) (K 14)
    obtain ⟨b1, b2', b3, b4, b5, b6, b7, b8, b9⟩ := hG.2.2.2.2.2.2.2 j hj
    rw [Nat.zero_add] at b9
    rw [h, if_neg (by decide), if_neg (by decide), k4, k11, bd_t s1, bd_t s2]
    simp (disch := omega) only [ginb, ncl, nm_s, pk_mul, nI_add, b9]
    refine ⟨_, _, rfl, rfl, ?_, ?_, InvH_iff.mpr ⟨c', rfl, rfl, s3⟩, ht⟩
    · simp [upd_at]
    · show gr (K 0) (K 1) (I 0) (I 1) (upd (I 2) j (-(I 2 j))) (upd (I 10) (2 + 3 * j + 2) (-(I 2 j))) 0
      obtain ⟨g1, g2, g3, g4, g5, g6, g7, g8⟩ := hG
      refine GA_gr (x := x) (y := y) ⟨g1, g2, g3, g4, g5, ?_, ?_, fun k hk => ?_⟩
      · rw [upd_at, if_neg (by omega)]; exact g6
      · rw [upd_at, if_neg (by omega)]; exact g7
      · obtain ⟨d1, d2, d3, d4, d5, d6, d7, d8, d9⟩ := g8 k hk
        refine ⟨d1, d2, d3, d4, d5, ?_, ?_, ?_, ?_⟩
        · rw [upd_at, if_neg (by omega)]; exact d6
        · rw [upd_at, if_neg (by omega)]; exact d7
        · rw [upd_at]
          split
          · rename_i e
            subst e
            rcases d8 with q | q
            · exact Or.inr (by rw [q]; decide)
            · exact Or.inl (by rw [q]; decide)
          · exact d8
        · rw [upd_at, upd_at]
          by_cases e : k = j
          · subst e; rw [if_pos (by omega), if_pos rfl]
          · rw [if_neg (by omega), if_neg e]; exact d9
theorem pr_undo : Pr_undo := by
  intro I J K L C Mm hI
  obtain ⟨hg, hh, ht⟩ := id hI
  obtain ⟨c, k4, k11, hs⟩ := InvH_iff.mp hh
  unfold f_X8_undo f_X9_undo
  rw [k4, k11]
  have hc8 : c ≤ 8 := hs.1
  by_cases hc : c = 0
  · subst hc
    rw [if_pos (by decide), if_pos (by decide)]
    exact ⟨_, _, rfl, rfl, rfl, hg, InvH_iff.mpr ⟨0, rfl, rfl, hs⟩, ht⟩
  · have d0 : ¬ nI c = 0 := by rw [neq0 (by omega)]; exact hc
    have d1 : ¬ nI c ≤ 0 := by rw [nle0 (by omega)]; exact hc
    obtain ⟨q1, q2, ℓ, q3, q4, q5⟩ := id hs
    obtain ⟨l1, l2⟩ := q3 (c - 1) (by omega)
    rw [if_neg d0, if_neg d0]
    unfold f_X4_restore
    rw [if_neg d1, nsub (by omega), ginb (by omega) (by omega), ncl (by omega), l1, bd_s, gltq l2]
    obtain ⟨f', s', n', e1, e2⟩ := c_copyFrom (K 0) (K 1) (I 0) (I 1) (I 2) (C (ℓ (c - 1))).1 (C (ℓ (c - 1))).2.1 (C (ℓ (c - 1))).2.2.1 (C (ℓ (c - 1))).2.2.2.1 (C (ℓ (c - 1))).2.2.2.2
    rw [bd_t e1, bd_s]
    have hw := wh_inv (b := b_X9_undo_22 (nI c) (I 12)) (fun i z => z.1 = nI i ∧ ∀ k, k < i → z.2 k = I 12 (29 * (c - 1) + k)) (fun r => ∀ k, k < 29 → r k = I 12 (29 * (c - 1) + k)) 29 (fun i z hi ⟨z1, z2⟩ => ?_) (fun z ⟨z1, z2⟩ => ?_) 0 (nI 0, I 10) (by omega) ⟨rfl, fun k h => absurd h (Nat.not_lt_zero k)⟩
    · obtain ⟨now', w1, w2⟩ := hw
      rw [bd_t w1]
      refine ⟨_, _, rfl, rfl, rfl, ?_, InvH_iff.mpr ⟨c - 1, rfl, rfl, by omega, q2, ℓ, q3, q4, fun k hk => q5 k (by omega)⟩, ht⟩
      exact gr_congr (q5 (c - 1) (by omega)) e2 (fun i hi => by rw [Nat.zero_add]; exact w2 i hi)
    · obtain ⟨zi, zp⟩ := z
      dsimp only at z1 z2
      subst z1
      unfold b_X9_undo_22
      simp (disch := omega) only [nle, if_neg, pk_mul, nI_add, nsub, ginb, ncl]
      refine ⟨_, rfl, rfl, fun k hk => ?_⟩
      simp only [upd_at]
      by_cases ek : k = i
      · subst ek; rw [if_pos rfl]
      · rw [if_neg ek]; exact z2 k (by omega)
    · unfold b_X9_undo_22
      simp (disch := omega) only [z1, nle, if_pos]
      exact ⟨_, rfl, z2⟩
