/-- the column that the reference carries -/
def wv (A : Nat → Nat → Int) (n i l : Nat) : Int := sm n (fun j => gz n A l j i * A j n)
theorem wv_0 (A : Nat → Nat → Int) {n l : Nat} (hl : l < n) : wv A n 0 l = A l n := by
  unfold wv
  rw [sm_one hl (fun j _ hj => by show (if l = j then (1 : Int) else 0) * _ = 0; rw [if_neg (fun h => hj h.symm), Int.zero_mul])]
  show (if l = l then (1 : Int) else 0) * _ = _
  rw [if_pos rfl, Int.one_mul]
theorem wv_s (A : Nat → Nat → Int) (n i l : Nat) : wv A n (i + 1) l = sm n (fun j => A l j * wv A n i j) := by
  unfold wv
  rw [sm_congr (g := fun k => sm n (fun j => A l j * gz n A j k i * A k n)) (fun k hk => by rw [gz_l A hk, ← sm_mulr]), sm_swap]
  refine sm_congr (fun j _ => ?_)
  rw [← sm_mul]
  exact sm_congr (fun k _ => Int.mul_assoc _ _ _)
theorem Ss_wv (A : Nat → Nat → Int) (n i : Nat) : Ss A n (i + 2) = - sm n (fun l => A n l * wv A n i l) := by
  rw [Ss_co, if_neg (by omega), if_neg (by omega)]
  rfl
theorem m_laysStep {N n : Nat} (hN : N ≤ 18) (hn : n < N) (q1 q2 q3 q4 : Int32) (mat step col mov : Nat → Int64) (A : Nat → Nat → Int) (hA : ∀ i j, i < N → j < N → mat (18 * i + j) = iL (A i j)) : ∃ r, f_X9_laysStep (nI n) q1 q2 q3 q4 mat step col mov = some r ∧ ∀ k, k ≤ n + 1 → r.1 k = iL (Ss A n k) := by
  unfold f_X9_laysStep
  simp (disch := omega) only [pk_mul, nI_add, ginb, ncl]
  have hw := wh_inv (b := b_X9_laysStep_27 (nI n) mat) (fun i z => z.1 = nI i ∧ ∀ k, k < i → z.2 k = iL (A k n)) (fun r => ∀ k, k < n → r k = iL (A k n)) n (fun i z hi ⟨z1, z2⟩ => ?_) (fun z ⟨z1, z2⟩ => ?_) 0 (nI 0, col) (by omega) ⟨rfl, fun k h => absurd h (Nat.not_lt_zero k)⟩
  · obtain ⟨c0, v1, v2⟩ := hw
    rw [bd_t v1]
    have hw := wh_inv (b := b_X9_laysStep_57 (nI n) mat) (fun i z => z.1 = nI i ∧ (∀ k, k ≤ i + 1 → z.2.1 k = iL (Ss A n k)) ∧ ∀ l, l < n → z.2.2.1 l = iL (wv A n i l)) (fun r => ∀ k, k ≤ n + 1 → r.1 k = iL (Ss A n k)) n (fun i z hi ⟨z1, z2, z3⟩ => ?_) (fun z ⟨z1, z2, z3⟩ => ?_) 0 (nI 0, vp_updL (vp_updL step 0 1) 1 (-mat (18 * n + n)), c0, mov) (by omega) ⟨rfl, fun k hk => ?_, fun l hl => ?_⟩
    · obtain ⟨r, w1, w2⟩ := hw
      rw [bd_t w1]
      exact ⟨_, rfl, w2⟩
    · obtain ⟨zi, zs, zc, zm⟩ := z
      dsimp only at z1 z2 z3
      subst z1
      unfold b_X9_laysStep_57
      simp (disch := omega) only [nle, if_neg]
      have h67 := wh_cnt (b := b_X9_laysStep_67 (nI n) mat (nI i, zs, zc, zm)) (fun k => (nI k, iL (sm k (fun l => A n l * wv A n i l)))) n (r := iL (sm n (fun l => A n l * wv A n i l))) (fun k hk => by
        unfold b_X9_laysStep_67
        simp (disch := omega) only [pk_mul, nle, if_neg, nI_add, ginb, ncl, nm_s]
        rw [hA n k hn (by omega), z3 k hk, ← iL_mul, ← iL_add]
        rfl) (by
        unfold b_X9_laysStep_67
        simp (disch := omega) only [nle, if_pos]) 0 (by omega)
      rw [show (nI 0, (0 : Int64)) = (nI 0, iL (sm 0 (fun l => A n l * wv A n i l))) from rfl, bd_t h67, nI_add, ginb (by omega) (by omega), ncl (by omega)]
      have h115 := wh_inv (b := b_X9_laysStep_115 (nI n) mat (nI i, zs, zc, zm)) (fun l u => u.1 = nI l ∧ ∀ k, k < l → u.2 k = iL (wv A n (i + 1) k)) (fun r => ∀ k, k < n → r k = iL (wv A n (i + 1) k)) n (fun l u hl ⟨u1, u2⟩ => ?_) (fun u ⟨u1, u2⟩ => ?_) 0 (nI 0, zm) (by omega) ⟨rfl, fun k h => absurd h (Nat.not_lt_zero k)⟩
      · obtain ⟨mv, t1, t2⟩ := h115
        rw [bd_t t1]
        obtain ⟨cl, t3, t4⟩ := c_copyL (b := b_X9_laysStep_184 (nI n) mv) (N := n) (src := mv) (fun i u hi => by
          unfold b_X9_laysStep_184
          simp (disch := omega) only [nle, if_neg, nI_add, ginb, ncl]) (fun u => by
          unfold b_X9_laysStep_184
          simp (disch := omega) only [nle, if_pos]) zc
        rw [bd_t t3, nI_add]
        refine ⟨_, rfl, rfl, fun k hk => ?_, fun l hl => ?_⟩
        · dsimp only
          rw [updL_at]
          by_cases h : k = i + 2
          · rw [if_pos h, h, Ss_wv, iL_neg]
          · rw [if_neg h]; exact z2 k (by omega)
        · show cl l = _
          rw [t4 l hl]; exact t2 l hl
      · obtain ⟨ul, um⟩ := u
        dsimp only at u1 u2
        subst u1
        unfold b_X9_laysStep_115
        simp (disch := omega) only [nle, if_neg, ginb, ncl]
        have h132 := wh_inv (b := b_X9_laysStep_132 (nI n) mat (nI i, zs, zc, zm) (nI l, um)) (fun j y => y.1 = nI j ∧ y.2 l = iL (sm j (fun j => A l j * wv A n i j)) ∧ ∀ k, k ≠ l → y.2 k = um k) (fun r => r l = iL (sm n (fun j => A l j * wv A n i j)) ∧ ∀ k, k ≠ l → r k = um k) n (fun j y hj ⟨y1, y2, y3⟩ => ?_) (fun y ⟨y1, y2, y3⟩ => ?_) 0 (nI 0, vp_updL um l 0) (by omega) ⟨rfl, ?_, fun k hk => ?_⟩
        · obtain ⟨r, t1, t2, t3⟩ := h132
          rw [bd_t t1, nI_add]
          refine ⟨_, rfl, rfl, fun k hk => ?_⟩
          by_cases h : k = l
          · subst h; rw [wv_s]; exact t2
          · exact (t3 k h).trans (u2 k (by omega))
        · obtain ⟨yj, ym⟩ := y
          dsimp only at y1 y2 y3
          subst y1
          unfold b_X9_laysStep_132
          simp (disch := omega) only [pk_mul, nle, if_neg, nI_add, ginb, ncl]
          rw [hA l j (by omega) (by omega), z3 j hj, y2, ← iL_mul, ← iL_add]
          refine ⟨_, rfl, rfl, ?_, fun k hk => ?_⟩
          · dsimp only
            rw [updL_at, if_pos rfl]; rfl
          · dsimp only
            rw [updL_at, if_neg hk]; exact y3 k hk
        · unfold b_X9_laysStep_132
          simp (disch := omega) only [y1, nle, if_pos]
          exact ⟨_, rfl, y2, y3⟩
        · dsimp only
          rw [updL_at, if_pos rfl]; rfl
        · dsimp only
          rw [updL_at, if_neg hk]
      · unfold b_X9_laysStep_115
        simp (disch := omega) only [u1, nle, if_pos]
        exact ⟨_, rfl, u2⟩
    · unfold b_X9_laysStep_57
      simp (disch := omega) only [z1, nle, if_pos]
      exact ⟨_, rfl, z2⟩
    · dsimp only
      rw [updL_at, updL_at, Ss_co]
      by_cases h : k = 1
      · rw [if_pos h, if_neg (by omega), if_pos h, hA n n hn hn, iL_neg]
      · rw [if_neg h, if_pos (by omega), if_pos (by omega)]; rfl
    · show c0 l = _
      rw [wv_0 A hl]; exact v2 l hl
  · obtain ⟨zi, zp⟩ := z
    dsimp only at z1 z2
    subst z1
    unfold b_X9_laysStep_27
    simp (disch := omega) only [pk_mul, nle, if_neg, nI_add, ginb, ncl]
    refine ⟨_, rfl, rfl, fun k hk => ?_⟩
    dsimp only
    rw [updL_at]
    by_cases ek : k = i
    · subst ek; rw [if_pos rfl, hA k n (by omega) hn]
    · rw [if_neg ek]; exact z2 k (by omega)
  · unfold b_X9_laysStep_27
    simp (disch := omega) only [z1, nle, if_pos]
    exact ⟨_, rfl, z2⟩
