theorem tw_facts : (∀ t, t < 64 → ∀ c, c < 6 → bit t c = true → t ^^^ 2 ^ c < t) ∧ (∀ t, t < 64 → 1 ≤ t → 1 ≤ cd (bit t) 6) := by decide +kernel
theorem bc_64 : ∀ t, t < 64 → f_J6_bitCount_0f7a4 (nI t) = some (nI (cd (bit t) 6)) := by decide +kernel
theorem bit_rm {t c : Nat} (h : bit t c = true) : bit (t ^^^ 2 ^ c) = rmS (bit t) c := by
  funext d
  unfold bit rmS
  rw [Nat.testBit_xor, Nat.testBit_two_pow]
  by_cases e : d = c
  · subst e
    have h : t.testBit d = true := h
    rw [h]
    simp [bit, h]
  · rw [decide_eq_false (fun q => e q.symm), beq_eq_false_iff_ne.mpr e]
    simp
theorem bit_hi {t a d : Nat} (h : t < 2 ^ a) (hd : a ≤ d) : bit t d = false := Nat.testBit_lt_two_pow (Nat.lt_of_lt_of_le h (Nat.pow_le_pow_right (by omega) hd))
theorem cd_hi {t a : Nat} (h : t < 2 ^ a) : ∀ d, cd (bit t) (a + d) = cd (bit t) a := by
  intro d
  induction d with
  | zero => rfl
  | succ d ih =>
    show cd (bit t) (a + d) + (if bit t (a + d) = true then 1 else 0) = _
    rw [ih, bit_hi h (by omega), if_neg (by decide)]; rfl
theorem cd_le (S : Nat → Bool) : ∀ N, cd S N ≤ N := by
  intro N
  induction N with
  | zero => exact Nat.le_refl 0
  | succ n ih =>
    show cd S n + (if S n = true then 1 else 0) ≤ n + 1
    split <;> omega
theorem par_pred (S : Nat → Bool) (c : Nat) : ∀ N, c + 1 < N → par S c N = (par S (c + 1) N ^^ S (c + 1)) := by
  intro N
  induction N with
  | zero => intro h; exact absurd h (by omega)
  | succ n ih =>
    intro h
    show (par S c n ^^ (decide (c < n) && S n)) = ((par S (c + 1) n ^^ (decide (c + 1 < n) && S n)) ^^ S (c + 1))
    by_cases h2 : c + 1 < n
    · rw [ih h2, decide_eq_true (show c < n by omega), decide_eq_true h2]
      generalize par S (c + 1) n = p
      generalize S (c + 1) = q
      generalize S n = r
      cases p <;> cases q <;> cases r <;> rfl
    · obtain rfl : n = c + 1 := by omega
      rw [par_lo S c (c + 1) (by omega), par_lo S (c + 1) (c + 1) (by omega), decide_eq_true (show c < c + 1 by omega), decide_eq_false h2]
      generalize S (c + 1) = q
      cases q <;> rfl
section MIN
variable {v e : Int32} {f s n now : Nat → Int32} {a E : Nat} {x y : Nat → Nat}
/-- one column's part of a coefficient -/
def trm (x y : Nat → Nat) (E a row : Nat) (S : Nat → Bool) (k c : Nat) : Int := letI := psR; if S c = true then (sgb (par S c a) * (Bv x y E row c * Dk a (Bv x y E) row (rmS S c))) k else 0
theorem trm_sum (a row : Nat) (S : Nat → Bool) (k : Nat) : @Dk PS psR a (Bv x y E) (row + 1) S k = sm a (trm x y E a row S k) := by
  letI := psR
  show Lw a (Bv x y E row) (Dk a (Bv x y E) row) S k = _
  unfold Lw
  rw [sR_co]
  refine sm_congr (fun c _ => ?_)
  unfold trm
  by_cases h : S c = true
  · rw [if_pos h, if_pos h]
  · rw [if_neg h, if_neg h]
    show (if k = 0 then ((0 : Nat) : Int) else 0) = 0
    split <;> rfl
theorem c_makeMinor (hG : GA v e f s n now 0 a E x y) {t : Nat} (ht0 : 1 ≤ t) (ht : t < 2 ^ a) (M : Nat → Nat → Int64) (hM : ∀ t', t' < t → ∀ k, k ≤ 12 → M t' k = iL (@Dk PS psR a (Bv x y E) (cd (bit t') a) (bit t') k)) : ∃ r, f_X6_makeMinor (nI t) v e f s M = some r ∧ (∀ t', t' ≠ t → r t' = M t') ∧ ∀ k, k ≤ 12 → r t k = iL (@Dk PS psR a (Bv x y E) (cd (bit t) a) (bit t) k) := by
  have ga := hG.2.1
  have ga1 := hG.1
  have hv : v = nI a := hG.2.2.2.1
  have hp : 2 ^ a ≤ 64 := Nat.pow_le_pow_right (n := 2) (by omega) ga
  have ht64 : t < 64 := by omega
  have hcd : cd (bit t) 6 = cd (bit t) a := by
    have := cd_hi ht (6 - a)
    rw [show a + (6 - a) = 6 by omega] at this
    exact this
  have hc1 : 1 ≤ cd (bit t) a := by rw [← hcd]; exact tw_facts.2 t ht64 ht0
  obtain ⟨row, hrow⟩ : ∃ row, cd (bit t) a = row + 1 := ⟨cd (bit t) a - 1, by omega⟩
  have hra : row < a := by have := cd_le (bit t) a; omega
  unfold f_X6_makeMinor
  obtain ⟨q9, w1, w2⟩ := c_fill (0 : Int64) (n := 13) (by omega) (M t)
  simp (disch := omega) only [ginb, ncl, gltq]
  rw [bd_t w1, bc_64 t ht64, bd_s, hcd, hrow]
  rw [show nI (row + 1) - nI 1 = nI row from nsub (by omega), nm_s]
  rw [show v - nI 1 = nI (a - 1) by rw [hv]; exact nsub ga1, nm_s]
  have hw := wh_inv (b := b_X6_makeMinor_31 (nI t) v e f s (nI row)) (fun j z => z.1 = (if j < a then nI (a - 1 - j) else nI 4294967295) ∧ (j < a → z.2.1 = iL (sgb (par (bit t) (a - 1 - j) a))) ∧ (∀ t', t' ≠ t → z.2.2 t' = M t') ∧ ∀ k, k ≤ 12 → z.2.2 t k = iL (sm j (fun i => trm x y E a row (bit t) k (a - 1 - i)))) (fun r => (∀ t', t' ≠ t → r t' = M t') ∧ ∀ k, k ≤ 12 → r t k = iL (sm a (fun i => trm x y E a row (bit t) k (a - 1 - i)))) a (fun j z hj ⟨z1, z2, z3, z4⟩ => ?_) (fun z ⟨z1, z2, z3, z4⟩ => ?_) 0 (nI (a - 1), (1 : Int64), updM M t q9) (by omega) ⟨?_, fun _ => ?_, fun t' h => ?_, fun k hk => ?_⟩
  · obtain ⟨r, v1, v2, v3⟩ := hw
    rw [bd_t v1]
    refine ⟨_, rfl, v2, fun k hk => ?_⟩
    rw [v3 k hk, trm_sum]
    congr 1
    obtain ⟨a', rfl⟩ : ∃ a', a = a' + 1 := ⟨a - 1, by omega⟩
    exact sm_rev a' (trm x y E (a' + 1) row (bit t) k)
  · obtain ⟨zc, zs, zM⟩ := z
    dsimp only at z1 z2 z3 z4
    rw [if_pos hj] at z1
    have z2 := z2 hj
    subst z1 z2
    obtain ⟨c, hc⟩ : ∃ c, c = a - 1 - j := ⟨_, rfl⟩
    rw [← hc]
    have hnext : (nI c + nI 4294967295 : Int32) = if j + 1 < a then nI (a - 1 - (j + 1)) else nI 4294967295 := by
      by_cases h : j + 1 < a
      · rw [if_pos h, dwn (by omega) (by omega), show c - 1 = a - 1 - (j + 1) by omega]
      · rw [if_neg h, show c = 0 by omega, nI_0, Int32.zero_add]
    have hsh := sh_bit t ht64 c (by omega)
    have hone := sh_one c (by omega)
    have hlt0 : ¬ nI c < 0 := nI_pos (by omega)
    have es : ∀ k, sm (j + 1) (fun i => trm x y E a row (bit t) k (a - 1 - i)) = sm j (fun i => trm x y E a row (bit t) k (a - 1 - i)) + trm x y E a row (bit t) k c := fun k => by rw [hc]; rfl
    unfold b_X6_makeMinor_31
    dsimp only
    rw [if_neg hlt0, hsh]
    by_cases hb : bit t c = true
    · have hx := tw_facts.1 t ht64 c (by omega) hb
      rw [hb, if_pos (show b2 true = nI 1 by rfl), hone, nx_xor]
      simp (disch := omega) only [ginb, ncl, gltq]
      rw [gneq (by omega)]
      have hcr : cd (bit (t ^^^ 2 ^ c)) a = row := by
        have h1 := cd_rmS (bit t) c a
        rw [if_pos ⟨by omega, hb⟩, hrow] at h1
        rw [bit_rm hb]; omega
      obtain ⟨r, v1, v2⟩ := c_addProduct hG hra (show c < a by omega) (par (bit t) c a) (@Dk PS psR a (Bv x y E) row (rmS (bit t) c)) (zM (t ^^^ 2 ^ c)) (zM t) _ (fun k hk => by
        rw [z3 _ (by omega), hM _ hx k hk, hcr, bit_rm hb]) z4
      rw [bd_t v1, nm_s, nm_s]
      refine ⟨_, rfl, hnext, fun hj1 => ?_, fun t' h => ?_, fun k hk => ?_⟩
      · dsimp only
        have hp2 := par_pred (bit t) (a - 1 - (j + 1)) a (by omega)
        rw [show a - 1 - (j + 1) + 1 = c by omega, hb] at hp2
        rw [hp2, ← iL_neg]
        congr 1
        exact (sgb_t _).symm
      · dsimp only
        unfold updM
        rw [if_neg h]; exact z3 t' h
      · dsimp only
        unfold updM
        rw [if_pos rfl, v2 k hk, es]
        congr 2
        unfold trm
        rw [if_pos hb]
    · have hb' : bit t c = false := by simpa using hb
      rw [hb', if_neg (show ¬ b2 false = nI 1 by decide), nm_s]
      refine ⟨_, rfl, hnext, fun hj1 => ?_, z3, fun k hk => ?_⟩
      · dsimp only
        have hp2 := par_pred (bit t) (a - 1 - (j + 1)) a (by omega)
        rw [show a - 1 - (j + 1) + 1 = c by omega, hb'] at hp2
        rw [hp2, sgb_f]
      · dsimp only
        rw [z4 k hk, es]
        congr 1
        unfold trm
        rw [if_neg hb]
        omega
  · rw [if_neg (Nat.lt_irrefl a)] at z1
    unfold b_X6_makeMinor_31
    rw [z1, if_pos (show nI 4294967295 < 0 by decide)]
    exact ⟨_, rfl, z3, z4⟩
  · rw [if_pos (by omega), Nat.sub_zero]
  · show (1 : Int64) = _
    rw [Nat.sub_zero, par_lo _ _ _ (by omega)]
    rfl
  · show updM M t q9 t' = _
    unfold updM
    rw [if_neg h]
  · show updM M t q9 t k = _
    unfold updM
    rw [if_pos rfl, w2 k (by omega)]
    rfl
theorem bit_all (a : Nat) : bit (2 ^ a - 1) = al a := by
  funext d
  unfold bit al
  exact Nat.testBit_two_pow_sub_one a d
theorem c_makeFromV (hG : GA v e f s n now 0 a E x y) (co : Nat → Int64) (M : Nat → Nat → Int64) : ∃ r, f_X6_makeFrom co v e f s M = some r ∧ ∀ k, k ≤ 18 → r.1 k = iL (cc (VM x y E a) (a + a) k) := by
  have ga := hG.2.1
  have ga1 := hG.1
  have hv : v = nI a := hG.2.2.2.1
  have hp : 2 ^ a ≤ 64 := Nat.pow_le_pow_right (n := 2) (by omega) ga
  have hp1 : 2 ^ 1 ≤ 2 ^ a := Nat.pow_le_pow_right (by omega) ga1
  obtain ⟨q7, w1, w2⟩ := c_fill (0 : Int64) (n := 13) (by omega) (M 0)
  have hx : (nI 1 <<< (v &&& 31)) - nI 1 = nI (2 ^ a - 1) := by
    rw [hv, sh_one a (by omega)]
    exact nsub (by omega)
  unfold f_X6_makeFrom
  simp (disch := omega) only [ginb, ncl, gltq]
  rw [bd_t w1, hx, nm_s]
  have hw := wh_inv (b := b_X6_makeFrom_30 v e f s (nI (2 ^ a - 1))) (fun t z => z.1 = nI t ∧ 1 ≤ t ∧ ∀ t', t' < t → ∀ k, k ≤ 12 → z.2 t' k = iL (@Dk PS psR a (Bv x y E) (cd (bit t') a) (bit t') k)) (fun r => ∀ k, k ≤ 12 → r (2 ^ a - 1) k = iL (@Dk PS psR a (Bv x y E) (cd (bit (2 ^ a - 1)) a) (bit (2 ^ a - 1)) k)) (2 ^ a) (fun t z ht ⟨z1, z0, z2⟩ => ?_) (fun z ⟨z1, z0, z2⟩ => ?_) 1 (nI 1, updM (updM M 0 q7) 0 (vp_updL ((updM M 0 q7) 0) 0 (1 : Int64))) (by omega) ⟨rfl, Nat.le_refl 1, fun t' ht' k hk => ?_⟩
  · obtain ⟨r30, v1, v2⟩ := hw
    obtain ⟨q52, u1, u2⟩ := c_fill (0 : Int64) (n := 19) (by omega) co
    rw [bd_t v1, bd_t u1, ginb (by omega) (by omega), ncl (by omega), gltq (by omega)]
    refine ⟨_, rfl, fun k hk => ?_⟩
    show va_cpy (r30 (2 ^ a - 1)) q52 0 0 13 k = _
    unfold va_cpy
    by_cases h : k ≤ 12
    · rw [if_pos (by omega), show 0 + (k - 0) = k by omega, v2 k h, bit_all, cd_al, cc_VM hG, show min a a = a by omega]
    · rw [if_neg (by omega), u2 k (by omega), cc_deg _ _ _ (by omega)]; rfl
  · obtain ⟨zt, zM⟩ := z
    dsimp only at z1 z2
    subst z1
    obtain ⟨r, v1, v2, v3⟩ := c_makeMinor hG z0 ht zM z2
    unfold b_X6_makeFrom_30
    simp (disch := omega) only [nlt, if_neg]
    rw [bd_t v1, nI_add]
    refine ⟨_, rfl, rfl, by omega, fun t' ht' k hk => ?_⟩
    dsimp only
    by_cases h : t' = t
    · rw [h]; exact v3 k hk
    · rw [v2 t' h]; exact z2 t' (by omega) k hk
  · unfold b_X6_makeFrom_30
    simp (disch := omega) only [z1, nlt, if_pos]
    exact ⟨_, rfl, z2 _ (by omega)⟩
  · obtain rfl : t' = 0 := by omega
    show updM (updM M 0 q7) 0 (vp_updL ((updM M 0 q7) 0) 0 1) 0 k = _
    unfold updM
    rw [if_pos rfl, if_pos rfl, updL_at]
    have hc0 : cd (bit 0) a = 0 := by
      have : ∀ N, cd (bit 0) N = 0 := by
        intro N
        induction N with
        | zero => rfl
        | succ n ih =>
          show cd (bit 0) n + (if bit 0 n = true then 1 else 0) = 0
          have : bit 0 n = false := Nat.zero_testBit n
          rw [ih, this, if_neg (by decide)]
      exact this a
    rw [hc0]
    show _ = iL ((if cd (bit 0) a = 0 then (letI := psR; (1 : PS)) else (letI := psR; (0 : PS))) k)
    rw [if_pos hc0]
    show _ = iL (if k = 0 then 1 else 0)
    by_cases h : k = 0
    · rw [if_pos h, if_pos h]; rfl
    · rw [if_neg h, if_neg h, w2 k (by omega)]; rfl
end MIN
