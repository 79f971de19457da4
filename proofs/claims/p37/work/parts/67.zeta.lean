variable {v e : Int32} {f s n now : Nat → Int32} {a E : Nat} {x y : Nat → Nat}
theorem zet_rel {m : Nat} (hm : m ≤ 18) (c1 c2 w1 w2 : Nat → Int64) (q : Int32 × (Nat → Int64) × (Nat → Int64) × (Nat → Int64) × (Nat → Int64) × (Nat → Int64) × (Nat → Int64)) (hq : q.2.2.1 = c2) (h : ∀ k, k ≤ 18 → c1 k = c2 k) (hw0 : w1 0 = 1 ∧ w2 0 = 1) : ∃ r1 r2, wh (b_X0_inverseCoefficient_9 (nI m) c1) (nI 1, w1) = some r1 ∧ wh (b_X9_zetaCoefficient_20 (nI m) q) (nI 1, w2) = some r2 ∧ ∀ k, k ≤ m → r1 k = r2 k := by
  refine wh_rel (b1 := b_X0_inverseCoefficient_9 (nI m) c1) (b2 := b_X9_zetaCoefficient_20 (nI m) q) (fun i s t => s.1 = nI i ∧ t.1 = nI i ∧ 1 ≤ i ∧ ∀ k, k < i → s.2 k = t.2 k) (fun r1 r2 => ∀ k, k ≤ m → r1 k = r2 k) (m + 1) (fun i s t hi ⟨p1, p2, p4, p3⟩ => ?_) (fun s t ⟨p1, p2, p4, p3⟩ => ?_) 1 (nI 1, w1) (nI 1, w2) (by omega) ⟨rfl, rfl, Nat.le_refl 1, fun k hk => by rw [show k = 0 by omega]; exact hw0.1.trans hw0.2.symm⟩
  · obtain ⟨si, sa⟩ := s
    obtain ⟨ti, ta⟩ := t
    dsimp only at p1 p2 p3
    subst p1 p2
    have hw := wh_rel (b1 := b_X0_inverseCoefficient_19 c1 (nI i, sa)) (b2 := b_X9_zetaCoefficient_42 q (nI i, ta)) (fun j u w => u.1 = nI j ∧ w.1 = nI j ∧ 1 ≤ j ∧ w.2 i = - u.2 ∧ ∀ k, k < i → w.2 k = ta k) (fun r1 r2 => r2 i = - r1 ∧ ∀ k, k < i → r2 k = ta k) (i + 1) (fun j u w hj ⟨q1, q2, q5, q3, q4⟩ => by
      obtain ⟨ui, ua⟩ := u
      obtain ⟨wi, wa⟩ := w
      dsimp only at q1 q2 q3 q4
      subst q1 q2
      have g1 : ¬ nI i < nI j := by rw [nlt (by omega) (by omega)]; omega
      unfold b_X0_inverseCoefficient_19 b_X9_zetaCoefficient_42
      simp (disch := omega) only [if_neg g1, nsub, ginb, ncl, nm_s, nI_add, hq]
      refine Or.inl ⟨_, _, rfl, rfl, rfl, rfl, by omega, ?_, fun k hk => ?_⟩
      · dsimp only
        rw [updL_at, if_pos rfl, q3, q4 (i - j) (by omega), h j (by omega), p3 (i - j) (by omega)]
        grind
      · dsimp only
        rw [updL_at, if_neg (by omega)]; exact q4 k hk) (fun u w ⟨q1, q2, q5, q3, q4⟩ => by
      obtain ⟨ui, ua⟩ := u
      obtain ⟨wi, wa⟩ := w
      dsimp only at q1 q2 q3 q4
      subst q1 q2
      have g1 : nI i < nI (i + 1) := by rw [nlt (by omega) (by omega)]; omega
      unfold b_X0_inverseCoefficient_19 b_X9_zetaCoefficient_42
      simp only [if_pos g1]
      exact ⟨_, _, rfl, rfl, q3, q4⟩) 1 (nI 1, (0 : Int64)) (nI 1, vp_updL ta i 0) (by omega) ⟨rfl, rfl, Nat.le_refl 1, by dsimp only; rw [updL_at, if_pos rfl]; decide, fun k hk => by dsimp only; rw [updL_at, if_neg (by omega)]⟩
    obtain ⟨r1, r2, v1, v2, v3, v4⟩ := hw
    have g1 : ¬ nI m < nI i := by rw [nlt (by omega) (by omega)]; omega
    have g2 : ¬ nI i = 0 := by rw [neq0 (by omega)]; omega
    unfold b_X0_inverseCoefficient_9 b_X9_zetaCoefficient_20
    simp only [if_neg g1, if_neg g2, bd_s]
    rw [ginb (show i < 19 by omega) (by omega), ncl (by omega), bd_t v1, bd_t v2, ginb (show i < 19 by omega) (by omega), nI_add]
    refine Or.inl ⟨_, _, rfl, rfl, rfl, rfl, by omega, fun k hk => ?_⟩
    dsimp only
    rw [updL_at]
    by_cases hk2 : k = i
    · rw [if_pos hk2, hk2, v3]
    · rw [if_neg hk2, v4 k (by omega)]; exact p3 k (by omega)
  · have g1 : nI m < nI (m + 1) := by rw [nlt (by omega) (by omega)]; omega
    unfold b_X0_inverseCoefficient_9 b_X9_zetaCoefficient_20
    rw [p1, p2, if_pos g1, if_pos g1]
    exact ⟨_, _, rfl, rfl, fun k hk => p3 k (by omega)⟩
