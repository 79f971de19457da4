theorem iL_neg (a : Int) : iL (-a) = - iL a := Int64.ofInt_neg a
theorem iL_div {a b : Int} (h1 : -2 ^ 63 ≤ a) (h2 : a < 2 ^ 63) (h3 : -2 ^ 63 ≤ b) (h4 : b < 2 ^ 63) : iL a / iL b = iL (a.tdiv b) := by
  have e1 : Int64.minValue.toInt = -2 ^ 63 := by decide
  have e2 : Int64.maxValue.toInt = 2 ^ 63 - 1 := by decide
  refine (Int64.ofInt_tdiv ?_ ?_ ?_ ?_).symm
  · rw [e1]; exact h1
  · rw [e2]; omega
  · rw [e1]; exact h3
  · rw [e2]; omega
theorem nzl_i {k : Nat} (h1 : 1 ≤ k) (h2 : k < 2 ^ 31) : nzl (nI k).toInt64 = true := by
  unfold nzl
  refine decide_eq_true (fun h => ?_)
  rw [iL_of, nI_toInt h2] at h
  have h3 := congrArg Int64.toInt h
  rw [show (iL (k : Int)).toInt = k from Int64.toInt_ofInt_of_le (by omega) (by omega), show (0 : Int64).toInt = 0 by decide] at h3
  omega
theorem nI_L {k : Nat} (h2 : k < 2 ^ 31) : (nI k).toInt64 = iL k := by rw [iL_of, nI_toInt h2]
/-- Newton's sums with exact division -/
theorem c_makeFrom {T c : PS} (hN : letI := psR; pD c = - T * c) (hT : T 0 = 0) (hc : c 0 = 1) (hb : ∀ k : Nat, k ≤ 18 → -2 ^ 63 ≤ (k : Int) * c k ∧ (k : Int) * c k < 2 ^ 63) (cs t : Nat → Int64) (ht : ∀ m, 1 ≤ m → m ≤ 18 → t m = iL (T m)) : ∃ r, f_X0_makeFrom cs 19 t = some r ∧ ∀ k, k ≤ 18 → r k = iL (c k) := by
  unfold f_X0_makeFrom
  rw [ginb (by omega) (by omega), ncl (by omega)]
  have hw := wh_inv (b := b_X0_makeFrom_9 19 t) (fun i z => z.1 = nI i ∧ 1 ≤ i ∧ ∀ k, k < i → z.2 k = iL (c k)) (fun r => ∀ k, k ≤ 18 → r k = iL (c k)) 19 (fun i z hi ⟨z1, z0, z2⟩ => ?_) (fun z ⟨z1, z0, z2⟩ => ?_) 1 (nI 1, vp_updL cs 0 1) (by omega) ⟨rfl, Nat.le_refl 1, fun k hk => ?_⟩
  · obtain ⟨r, w1, w2⟩ := hw
    rw [bd_t w1]
    exact ⟨r, rfl, w2⟩
  · obtain ⟨zi, zp⟩ := z
    dsimp only at z1 z2
    subst z1
    unfold b_X0_makeFrom_9
    simp (disch := omega) only [nlt, if_neg]
    have hw := wh_inv (b := b_X0_makeFrom_20 19 t (nI i, zp)) (fun j u => u.1 = nI j ∧ 1 ≤ j ∧ u.2 = iL (sm j (fun a => T a * c (i - a)))) (fun r => r = iL (sm (i + 1) (fun a => T a * c (i - a)))) (i + 1) (fun j u hj ⟨u1, u0, u2⟩ => ?_) (fun u ⟨u1, u0, u2⟩ => ?_) 1 (nI 1, (0 : Int64)) (by omega) ⟨rfl, Nat.le_refl 1, ?_⟩
    · obtain ⟨r, w1, w2⟩ := hw
      rw [bd_t w1, gd_t (nzl_i z0 (by omega)), ginb (by omega) (by omega), ncl (by omega), nI_add, nI_L (by omega), w2, ← iL_neg]
      have e1 : - sm (i + 1) (fun a => T a * c (i - a)) = (i : Int) * c i := (nw_co hN i).symm
      obtain ⟨b1, b2⟩ := hb i (by omega)
      rw [e1, iL_div b1 b2 (by omega) (by omega), Int.mul_tdiv_cancel_left _ (by omega)]
      refine ⟨_, rfl, rfl, by omega, fun k hk => ?_⟩
      dsimp only
      rw [updL_at]
      by_cases h : k = i
      · rw [if_pos h, h]
      · rw [if_neg h]; exact z2 k (by omega)
    · obtain ⟨ui, us⟩ := u
      dsimp only at u1 u2
      subst u1 u2
      unfold b_X0_makeFrom_20
      simp (disch := omega) only [nlt, if_neg, nsub, ginb, ncl, nm_s, nI_add]
      rw [ht j u0 (by omega), z2 (i - j) (by omega), ← iL_mul, ← iL_add]
      exact ⟨_, rfl, rfl, by omega, rfl⟩
    · unfold b_X0_makeFrom_20
      simp (disch := omega) only [u1, nlt, if_pos]
      exact ⟨_, rfl, u2⟩
    · show (0 : Int64) = iL (0 + T 0 * c (i - 0))
      rw [hT, Int.zero_mul]; rfl
  · unfold b_X0_makeFrom_9
    simp (disch := omega) only [z1, nlt, if_pos]
    exact ⟨_, rfl, fun k hk => z2 k (by omega)⟩
  · dsimp only
    rw [updL_at, if_pos (by omega), show k = 0 by omega, hc]; rfl
theorem m_clears {n : Nat} (hn : 19 ≤ n) (hn2 : n < 2 ^ 30) (a : Nat → Int64) : ∃ r, f_X9_clears n a = some r ∧ ∀ k, k < 19 → r k = 0 := by
  unfold f_X9_clears
  obtain ⟨r, v1, v2⟩ := c_copyL (b := b_X9_clears_2 n) (N := 19) (src := fun _ => 0) (fun i u hi => by
    unfold b_X9_clears_2
    simp (disch := omega) only [nle, if_neg, nI_add, ginb, ncl]) (fun u => by
    unfold b_X9_clears_2
    simp (disch := omega) only [nle, if_pos]) a
  rw [bd_t v1]
  exact ⟨r, rfl, v2⟩
theorem Ss_co (A : Nat → Nat → Int) (n k : Nat) : Ss A n k = if k = 0 then 1 else if k = 1 then - A n n else - sm n (fun l => A n l * sm n (fun j => gz n A l j (k - 2) * A j n)) := by
  show (if k = 0 then ((1 : Nat) : Int) else 0) - cv (pc (A n n)) pu k - cv (cv pu pu) (Qs A n) k = _
  rw [cv_c, cv_assoc, cv_u]
  show (if k = 0 then ((1 : Nat) : Int) else 0) - A n n * (if k = 1 then 1 else 0) - _ = _
  by_cases h0 : k = 0
  · subst h0
    rw [if_pos rfl, if_pos rfl, if_neg (by omega), if_pos rfl, Int.mul_zero]; rfl
  · rw [if_neg h0, if_neg h0, if_neg h0, cv_u]
    by_cases h1 : k = 1
    · subst h1
      rw [if_pos rfl, if_pos rfl, if_pos rfl, Int.mul_one]; omega
    · rw [if_neg h1, if_neg h1, if_neg (by omega), Int.mul_zero]
      have e : Qs A n (k - 1 - 1) = sm n (fun l => A n l * sm n (fun j => gz n A l j (k - 2) * A j n)) := by
        unfold Qs
        rw [sR_co]
        refine sm_congr (fun l _ => ?_)
        show cv (pc (A n l)) _ _ = _
        rw [cv_c, sR_co]
        congr 1
        refine sm_congr (fun j _ => ?_)
        show cv (gz n A l j) (pc (A j n)) _ = _
        rw [cv_comm, cv_c, Int.mul_comm, show k - 1 - 1 = k - 2 by omega]
      rw [e]; omega
