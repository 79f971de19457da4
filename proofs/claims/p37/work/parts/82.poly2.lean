theorem m_laysPoly2 {N : Nat} (hN : N ≤ 18) (q1 q2 q3 : Int32) (mat po ol st co mo : Nat → Int64) (A : Nat → Nat → Int) (hA : ∀ i j, i < N → j < N → mat (18 * i + j) = iL (A i j)) : ∃ r, f_X9_laysPoly q1 q2 q3 (nI N) mat po ol st co mo = some r ∧ ∀ k, k < 19 → r.1 k = iL (cc A N k) := by
  unfold f_X9_laysPoly
  obtain ⟨p0, v1, v2⟩ := m_clears (n := 19) (by omega) (by omega) po
  rw [bd_t v1, ginb (by omega) (by omega), ncl (by omega)]
  have hw := wh_inv (b := b_X9_laysPoly_17 q1 q2 q3 (nI N) mat) (fun n z => z.1 = nI n ∧ ∀ k, k < 19 → z.2.1 k = iL (cc A n k)) (fun r => ∀ k, k < 19 → r.1 k = iL (cc A N k)) N (fun n z hi ⟨z1, z2⟩ => ?_) (fun z ⟨z1, z2⟩ => ?_) 0 (nI 0, vp_updL p0 0 1, ol, st, co, mo) (by omega) ⟨rfl, fun k hk => ?_⟩
  · obtain ⟨r, w1, w2⟩ := hw
    rw [bd_t w1]
    exact ⟨_, rfl, w2⟩
  · obtain ⟨zi, zp, zo, zs, zc, zm⟩ := z
    dsimp only at z1 z2
    subst z1
    unfold b_X9_laysPoly_17
    simp (disch := omega) only [nle, if_neg]
    obtain ⟨⟨s1, s2, s3⟩, t1, t2⟩ := m_laysStep hN hi q1 q2 q3 (nI N) mat zs zc zm A hA
    dsimp only at t2
    rw [bd_t t1]
    have h32 := wh_inv (b := b_X9_laysPoly_32) (fun i u => u.1 = nI i ∧ (∀ k, k < i → u.2.1 k = 0 ∧ u.2.2 k = zp k) ∧ ∀ k, i ≤ k → u.2.1 k = zp k) (fun r => ∀ k, k < 19 → r.1 k = 0 ∧ r.2 k = zp k) 19 (fun i u hi ⟨u1, u2, u3⟩ => ?_) (fun u ⟨u1, u2, u3⟩ => ?_) 0 (nI 0, zp, zo) (by omega) ⟨rfl, fun k h => absurd h (Nat.not_lt_zero k), fun k _ => rfl⟩
    · obtain ⟨⟨p1, o1⟩, t3, t4⟩ := h32
      dsimp only at t4
      rw [bd_t t3]
      have h65 := wh_inv (b := b_X9_laysPoly_65 (nI n, zp, zo, zs, zc, zm) (s1, s2, s3) (p1, o1)) (fun k u => u.1 = nI k ∧ ∀ k', k' < 19 → u.2 k' = if k' < k then iL (cc A (n + 1) k') else 0) (fun r => ∀ k', k' < 19 → r k' = iL (cc A (n + 1) k')) (n + 2) (fun k u hk ⟨u1, u2⟩ => ?_) (fun u ⟨u1, u2⟩ => ?_) 0 (nI 0, p1) (by omega) ⟨rfl, fun k' hk' => ?_⟩
      · obtain ⟨r, t5, t6⟩ := h65
        rw [bd_t t5, nI_add]
        exact ⟨_, rfl, rfl, t6⟩
      · obtain ⟨uk, up⟩ := u
        dsimp only at u1 u2
        subst u1
        unfold b_X9_laysPoly_65
        simp (disch := omega) only [nlt, if_neg, nI_add]
        have h74 := wh_inv (b := b_X9_laysPoly_74 (nI n, zp, zo, zs, zc, zm) (s1, s2, s3) (p1, o1) (nI k, up)) (fun j y => y.1 = nI j ∧ y.2 k = iL (sm j (fun j => cc A n j * Ss A n (k - j))) ∧ ∀ k', k' ≠ k → y.2 k' = up k') (fun r => r k = iL (sm (min n k + 1) (fun j => cc A n j * Ss A n (k - j))) ∧ ∀ k', k' ≠ k → r k' = up k') (min n k + 1) (fun j y hj ⟨y1, y2, y3⟩ => ?_) (fun y ⟨y1, y2, y3⟩ => ?_) 0 (nI 0, up) (by omega) ⟨rfl, ?_, fun k' _ => rfl⟩
        · obtain ⟨r, t5, t6, t7⟩ := h74
          rw [bd_t t5]
          refine ⟨_, rfl, rfl, fun k' hk' => ?_⟩
          dsimp only
          by_cases h : k' = k
          · subst h
            rw [t6, if_pos (by omega)]
            congr 1
            show _ = sm (k' + 1) (fun j => cc A n j * Ss A n (k' - j))
            rw [show k' + 1 = (min n k' + 1) + (k' - min n k') by omega, sm_trunc (k' - min n k') (fun j j1 j2 => by rw [cc_deg A n j (by omega), Int.zero_mul])]
          · rw [t7 k' h, u2 k' hk']
            by_cases h2 : k' < k
            · rw [if_pos h2, if_pos (by omega)]
            · rw [if_neg h2, if_neg (by omega)]
        · obtain ⟨yj, ym⟩ := y
          dsimp only at y1 y2 y3
          subst y1
          unfold b_X9_laysPoly_74
          simp (disch := omega) only [nlt, if_neg, nsub, ginb, ncl, nI_add]
          rw [t2 (k - j) (by omega), (t4 j (by omega)).2, z2 j (by omega), y2, ← iL_mul, ← iL_add]
          refine ⟨_, rfl, rfl, ?_, fun k' hk' => ?_⟩
          · dsimp only
            rw [updL_at, if_pos rfl, Int.mul_comm (Ss A n (k - j))]; rfl
          · dsimp only
            rw [updL_at, if_neg hk']; exact y3 k' hk'
        · unfold b_X9_laysPoly_74
          by_cases h : n ≤ k
          · have e : min n k = n := by omega
            rw [e] at y1
            simp (disch := omega) only [y1, nlt, if_pos]
            exact ⟨_, rfl, y2, y3⟩
          · have e : min n k = k := by omega
            rw [e] at y1
            simp (disch := omega) only [y1, nlt, if_pos, if_neg]
            exact ⟨_, rfl, y2, y3⟩
        · show up k = _
          rw [u2 k (by omega), if_neg (by omega)]; rfl
      · unfold b_X9_laysPoly_65
        simp (disch := omega) only [u1, nlt, if_pos, nI_add]
        refine ⟨_, rfl, fun k' hk' => ?_⟩
        rw [u2 k' hk']
        by_cases h : k' < n + 2
        · rw [if_pos h]
        · rw [if_neg h, cc_deg A (n + 1) k' (by omega)]; rfl
      · rw [if_neg (by omega)]; exact (t4 k' hk').1
    · obtain ⟨ui, up, uo⟩ := u
      dsimp only at u1 u2 u3
      subst u1
      unfold b_X9_laysPoly_32
      simp (disch := omega) only [nle, if_neg, ginb, ncl, nI_add]
      refine ⟨_, rfl, rfl, fun k hk => ?_, fun k hk => ?_⟩
      · dsimp only
        rw [updL_at, updL_at]
        by_cases h : k = i
        · rw [if_pos h, if_pos h, h]; exact ⟨rfl, u3 i (Nat.le_refl i)⟩
        · rw [if_neg h, if_neg h]; exact u2 k (by omega)
      · dsimp only
        rw [updL_at, if_neg (by omega)]; exact u3 k (by omega)
    · unfold b_X9_laysPoly_32
      simp (disch := omega) only [u1, nle, if_pos]
      exact ⟨_, rfl, u2⟩
  · unfold b_X9_laysPoly_17
    simp (disch := omega) only [z1, nle, if_pos]
    exact ⟨_, rfl, z2⟩
  · dsimp only
    rw [updL_at]
    by_cases h : k = 0
    · rw [if_pos h, h]; rfl
    · rw [if_neg h, v2 k hk]
      show (0 : Int64) = iL (if k = 0 then 1 else 0)
      rw [if_neg h]; rfl
