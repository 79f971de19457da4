theorem lp_inv {f : Nat → Nat → Nat ⊕ (Nat → Nat)} {w' : Nat → Nat} : ∀ m j k, lp f m j k = .inr w' → ∃ j' k', j ≤ j' ∧ j' < j + m ∧ f j' k' = .inr w' := by
  intro m
  induction m with
  | zero =>
    intro j k h
    have h : (Sum.inl k : Nat ⊕ (Nat → Nat)) = Sum.inr w' := h
    cases h
  | succ m ih =>
    intro j k h
    cases hf : f j k with
    | inr w =>
      rw [lp_inr hf] at h
      exact ⟨j, k, Nat.le_refl j, by omega, by rw [hf, h]⟩
    | inl k1 =>
      rw [lp_inl hf] at h
      obtain ⟨j', k', h1, h2, h3⟩ := ih (j + 1) k1 h
      exact ⟨j', k', by omega, by omega, h3⟩
theorem srch_lt {G : (Nat → Nat) → Prop} {M L : Nat} : ∀ d, d ≤ L → ∀ (w : Nat → Nat) (k : Nat) (w' : Nat → Nat), (∀ i, i < L - d → w i < M) → srch G M L d w k = .inr w' → ∀ i, i < L → w' i < M := by
  intro d
  induction d with
  | zero =>
    intro _ w k w' hw h
    have h : @ite (Nat ⊕ (Nat → Nat)) (G w) (Classical.propDecidable _) (if k = 0 then .inr w else .inl (k - 1)) (.inl k) = .inr w' := h
    by_cases hg : G w
    · rw [if_pos hg] at h
      by_cases hk : k = 0
      · rw [if_pos hk] at h
        obtain rfl := Sum.inr.inj h
        exact fun i hi => hw i (by omega)
      · rw [if_neg hk] at h; cases h
    · rw [if_neg hg] at h; cases h
  | succ d ih =>
    intro hd w k w' hw h
    obtain ⟨j', k', h1, h2, h3⟩ := lp_inv M 0 k h
    refine ih (by omega) _ k' w' (fun i hi => ?_) h3
    by_cases e : i = L - 1 - d
    · rw [e, upn_at]; omega
    · rw [upn_lt (by omega)]; exact hw i (by omega)
theorem nn_I {p : Int32} (h : ¬ p < 0) : ∃ k, k < 2 ^ 31 ∧ p = nI k := by
  have e0 : (0 : Int32).toInt = 0 := by decide
  rw [Int32.lt_iff_toInt_lt, e0] at h
  have hb := Int32.toInt_lt p
  refine ⟨p.toInt.toNat, by omega, ?_⟩
  apply Int32.toInt_inj.mp
  rw [nI_toInt (by omega)]
  omega
theorem c_primeLen (p : Int32) : (f_X8_isPrimeLength p = some (nI 0) ∧ f_X9_in p (nI 1) (nI 5) = some (nI 0)) ∨ (∃ m, 1 ≤ m ∧ m ≤ 5 ∧ p = nI m ∧ f_X8_isPrimeLength p = some (nI 1) ∧ f_X9_in p (nI 1) (nI 5) = some (nI 1)) := by
  unfold f_X8_isPrimeLength f_X9_in
  rcases rng_lh p 1 5 (by omega) (by omega) with ⟨h1, h2⟩ | ⟨h1, h2⟩ | ⟨b, h1, h2, rfl⟩
  · rw [if_pos h1]; exact Or.inl ⟨rfl, rfl⟩
  · rw [if_neg h1, if_pos h2]; exact Or.inl ⟨rfl, rfl⟩
  · have c1 : ¬ nI b < nI 1 := by rw [nlt (by omega) (by omega)]; omega
    have c2 : ¬ nI 5 < nI b := by rw [nlt (by omega) (by omega)]; omega
    rw [if_neg c1, if_neg c2]; exact Or.inr ⟨b, h1, h2, rfl, rfl, rfl⟩
theorem pr_primeEdge : Pr_primeEdge := by
  intro I J K L C Mm p1 p2 p3 hI
  obtain ⟨hg, hh, ht⟩ := id hI
  obtain ⟨a, E, x, y, hG⟩ := gr_GA hg
  have hn10 : ¬ (nI 1 : Int32) = 0 := by decide
  have hn00 : (nI 0 : Int32) = 0 := by decide
  unfold f_X8_primeEdge f_X9_primeEdge
  rcases c_primeLen p1 with ⟨l1, l2⟩ | ⟨m, m1, m2, rfl, l1, l2⟩
  · rw [l1, l2, bd_s, bd_s, if_pos hn00, if_pos hn00]
    exact ⟨_, _, rfl, rfl, rfl, hg, hh, ht⟩
  · rw [l1, l2, bd_s, bd_s, if_neg hn10, if_neg hn10]
    by_cases h2 : p2 < 0
    · rw [if_pos h2, if_pos h2]
      exact ⟨_, _, rfl, rfl, rfl, hg, hh, ht⟩
    · obtain ⟨k, hk, rfl⟩ := nn_I h2
      rw [if_neg h2, if_neg h2, rng_m (by omega), bd_s]
      rcases rng_cases p3 (n := m) (by omega) with hr | ⟨hr, l, hl, rfl⟩
      · rw [hr, if_pos hn00]
        by_cases h3 : p3 < 0
        · rw [if_pos h3]
          exact ⟨_, _, rfl, rfl, rfl, hg, hh, ht⟩
        · rw [if_neg h3]
          have h4 : ¬ p3 < nI m := fun h4 => by
            obtain ⟨l, hl, rfl⟩ := nn_I h3
            rw [nlt hl (by omega)] at h4
            rw [rng_in h4 (by omega)] at hr
            exact absurd hr (by decide)
          rw [if_neg h4]
          exact ⟨_, _, rfl, rfl, rfl, hg, hh, ht⟩
      · rw [hr, if_neg hn10, if_neg (show ¬ nI l < 0 from nI_pos (by omega)), if_pos (show nI l < nI m by rw [nlt (by omega) (by omega)]; exact hl)]
        obtain ⟨c1, c2⟩ := c_find hG m1 m2 hk (K 10) (I 9) (fun _ => 0)
        obtain ⟨d1, d2⟩ := m_finds hG m1 m2 hk (K 11) (K 12) (K 13) (K 14) (I 15) (fun _ => 0)
        cases hs : srch (GW x y m) (2 * E) m m (fun _ => 0) k with
        | inr w' =>
          obtain ⟨⟨r0, r1, r2⟩, a1, a2, a3⟩ := c1 w' hs
          obtain ⟨⟨z0, z1⟩, b1, b2, b3⟩ := d1 w' hs
          dsimp only at a2 a3 b2 b3
          rw [bd_t a1, bd_t b1]
          dsimp only
          rw [a2, b2, if_neg hn10, if_neg hn10, ginb (by omega) (by omega), ginb (by omega) (by omega), ncl (by omega)]
          exact ⟨_, _, rfl, rfl, (a3 l hl).trans (b3 l hl).symm, hg, hh, ht⟩
        | inl k' =>
          obtain ⟨⟨r0, r1, r2⟩, a1, a2⟩ := c2 k' hs
          obtain ⟨⟨z0, z1⟩, b1, b2⟩ := d2 k' hs
          dsimp only at a2 b2
          rw [bd_t a1, bd_t b1]
          dsimp only
          rw [a2, b2, if_pos hn00, if_pos hn00]
          exact ⟨_, _, rfl, rfl, rfl, hg, hh, ht⟩
/-- the product of the signs of the first letters -/
def sgP (n : Nat → Int32) (w : Nat → Nat) : Nat → Int32
  | 0 => nI 1
  | i + 1 => sgP n w i * n (w i / 2)
section SGN
variable {v e : Int32} {f s n now : Nat → Int32} {a E : Nat} {x y : Nat → Nat}
theorem c_signOf (hG : GA v e f s n now 0 a E x y) {L : Nat} (hL : L ≤ 5) (sk : Int32) {word : Nat → Int32} {w : Nat → Nat} (hw : ∀ i, i < L → word i = nI (w i)) (hM : ∀ i, i < L → w i < 2 * E) : f_X5_signOfWord (nI L) sk word v e n = some (sgP n w L) := by
  have gE := hG.2.2.1
  unfold f_X5_signOfWord
  have hr := wh_cnt (b := b_X5_signOfWord_5 (nI L) word n) (S := fun i => (nI i, sgP n w i)) L (r := sgP n w L) (fun i hi => by
    have h1 := hM i hi
    unfold b_X5_signOfWord_5
    simp (disch := omega) only [nle, if_neg, ginb, ncl, hw i hi, ndiv, nm_s, nI_add]
    rfl) (by
    unfold b_X5_signOfWord_5
    simp (disch := omega) only [nle, if_pos]) 0 (by omega)
  rw [show ((nI 0, nI 1) : Int32 × Int32) = (nI 0, sgP n w 0) from rfl, bd_t hr]
theorem m_signOf (hG : GA v e f s n now 0 a E x y) {L : Nat} (hL : L ≤ 5) (q1 q2 q3 q4 : Int32) (q : Int32 × (Nat → Int32)) {w : Nat → Nat} (hw : ∀ i, i < L → q.2 i = nI (w i)) (hM : ∀ i, i < L → w i < 2 * E) : wh (b_X9_primeSign_29 (nI L) q1 q2 q3 q4 now q) (nI 0, nI 1) = some (sgP n w L) := by
  have gE := hG.2.2.1
  exact wh_cnt (b := b_X9_primeSign_29 (nI L) q1 q2 q3 q4 now q) (S := fun i => (nI i, sgP n w i)) L (r := sgP n w L) (fun i hi => by
    unfold b_X9_primeSign_29
    simp (disch := omega) only [nle, if_neg, ginb, ncl, hw i hi, m_sign hG (hM i hi), bd_s, nm_s, nI_add]
    rfl) (by
    unfold b_X9_primeSign_29
    simp (disch := omega) only [nle, if_pos]) 0 (by omega)
end SGN
theorem pr_primeSign : Pr_primeSign := by
  intro I J K L C Mm p1 p2 hI
  obtain ⟨hg, hh, ht⟩ := id hI
  obtain ⟨a, E, x, y, hG⟩ := gr_GA hg
  have hn10 : ¬ (nI 1 : Int32) = 0 := by decide
  have hn00 : (nI 0 : Int32) = 0 := by decide
  unfold f_X8_primeSign f_X9_primeSign
  rcases c_primeLen p1 with ⟨l1, l2⟩ | ⟨m, m1, m2, rfl, l1, l2⟩
  · rw [l1, l2, bd_s, bd_s, if_pos hn00, if_pos hn00]
    exact ⟨_, _, rfl, rfl, rfl, hg, hh, ht⟩
  · rw [l1, l2, bd_s, bd_s, if_neg hn10, if_neg hn10]
    by_cases h2 : p2 < 0
    · have h3 : ¬ 0 ≤ p2 := by
        have e0 : (0 : Int32).toInt = 0 := by decide
        rw [Int32.lt_iff_toInt_lt, e0] at h2
        rw [Int32.le_iff_toInt_le, e0]
        omega
      rw [if_pos h2, if_neg h3]
      exact ⟨_, _, rfl, rfl, rfl, hg, hh, ht⟩
    · obtain ⟨k, hk, rfl⟩ := nn_I h2
      rw [if_neg h2, if_pos (show 0 ≤ nI k from nI_pos' hk)]
      obtain ⟨c1, c2⟩ := c_find hG m1 m2 hk (K 10) (I 9) (fun _ => 0)
      obtain ⟨d1, d2⟩ := m_finds hG m1 m2 hk (K 11) (K 12) (K 13) (K 14) (I 15) (fun _ => 0)
      cases hs : srch (GW x y m) (2 * E) m m (fun _ => 0) k with
      | inr w' =>
        have hM := srch_lt m (Nat.le_refl m) _ k w' (fun i hi => absurd hi (by omega)) hs
        obtain ⟨⟨r0, r1, r2⟩, a1, a2, a3⟩ := c1 w' hs
        obtain ⟨⟨z0, z1⟩, b1, b2, b3⟩ := d1 w' hs
        dsimp only at a2 a3 b2 b3
        rw [bd_t a1, bd_t b1]
        dsimp only
        rw [a2, b2, if_neg hn10, if_neg hn10, c_signOf hG m2 r1 a3 hM, bd_s, bd_t (m_signOf hG m2 (K 11) (K 12) (K 13) (K 14) _ b3 hM)]
        exact ⟨_, _, rfl, rfl, rfl, hg, hh, ht⟩
      | inl k' =>
        obtain ⟨⟨r0, r1, r2⟩, a1, a2⟩ := c2 k' hs
        obtain ⟨⟨z0, z1⟩, b1, b2⟩ := d2 k' hs
        dsimp only at a2 b2
        rw [bd_t a1, bd_t b1]
        dsimp only
        rw [a2, b2, if_pos hn00, if_pos hn00]
        exact ⟨_, _, rfl, rfl, rfl, hg, hh, ht⟩
