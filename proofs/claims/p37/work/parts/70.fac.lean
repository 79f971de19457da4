theorem fac_mul {R : Type} [Lean.Grind.CommRing R] {c T q Dq Dc Z : R} (hN : Dc = - T * c) (hq : Dq = - (Z * q)) : Dc * q + c * Dq = - (T + Z) * (c * q) := by grind
theorem fac_div {R : Type} [Lean.Grind.CommRing R] {c T q g Dg Dq Dc Z : R} (hN : Dc = - T * c) (hq : Dq = - (Z * q)) (hg : g * q = 1) (hD : Dg * q + g * Dq = 0) : Dc * g + c * Dg = - (T - Z) * (c * g) := by
  have h1 : Dg = Dg * q * g := by grind
  have h2 : Dg * q = g * (Z * q) := by grind
  have h3 : Dg = Z * g := by grind
  grind
/-- 1 - eps u^k, and the series that takes it back -/
def pq (k : Nat) (ε : Int) : PS := fun n => if n = 0 then 1 else if n = k then - ε else 0
def pg (k : Nat) (ε : Int) : PS := fun n => if n % k = 0 then ε ^ (n / k) else 0
def pZ (k : Nat) (ε : Int) : PS := fun n => if n = 0 then 0 else if n % k = 0 then (k : Int) * ε ^ (n / k) else 0
theorem cv_pq {k : Nat} (hk : 1 ≤ k) (ε : Int) (a : PS) (n : Nat) : cv (pq k ε) a n = a n - (if k ≤ n then ε * a (n - k) else 0) := by
  unfold cv
  have h : ∀ i, i < n + 1 → pq k ε i * a (n - i) = (if i = 0 then a n else 0) - (if i = k then ε * a (n - k) else 0) := by
    intro i hi
    unfold pq
    by_cases h0 : i = 0
    · rw [if_pos h0, if_pos h0, if_neg (by omega), h0, Int.one_mul, Nat.sub_zero]; omega
    · rw [if_neg h0, if_neg h0]
      by_cases h1 : i = k
      · rw [if_pos h1, if_pos h1, h1, Int.neg_mul]; omega
      · rw [if_neg h1, if_neg h1, Int.zero_mul]; rfl
  rw [sm_congr h, sm_sub, sm_one (k := 0) (by omega) (fun i _ hi => if_neg hi), if_pos rfl]
  by_cases hkn : k ≤ n
  · rw [if_pos hkn, sm_one (k := k) (by omega) (fun i _ hi => if_neg hi), if_pos rfl]
  · rw [if_neg hkn, sm_zero (fun i hi => if_neg (by omega))]
theorem pg_pq {k : Nat} (hk : 1 ≤ k) (ε : Int) (n : Nat) : cv (pq k ε) (pg k ε) n = if n = 0 then 1 else 0 := by
  rw [cv_pq hk]
  unfold pg
  by_cases h : k ≤ n
  · have e1 : n % k = (n - k) % k := by rw [Nat.mod_eq_sub_mod h]
    have e2 : n / k = (n - k) / k + 1 := by rw [Nat.div_eq_sub_div (by omega) h]
    rw [if_pos h, if_neg (show ¬ n = 0 by omega), e1, e2]
    by_cases c : (n - k) % k = 0
    · rw [if_pos c, if_pos c, Int.pow_succ, Int.mul_comm]; omega
    · rw [if_neg c, if_neg c, Int.mul_zero]; rfl
  · rw [if_neg h, Nat.mod_eq_of_lt (by omega), Nat.div_eq_of_lt (by omega)]
    by_cases c : n = 0
    · rw [if_pos c, if_pos c, Int.pow_zero]; rfl
    · rw [if_neg c, if_neg c]; rfl
theorem pZ_pq {k : Nat} (hk : 1 ≤ k) (ε : Int) (n : Nat) : cv (pq k ε) (pZ k ε) n = - ((n : Int) * pq k ε n) := by
  rw [cv_pq hk]
  unfold pZ pq
  by_cases c : n = 0
  · subst c
    rw [if_pos rfl, if_neg (by omega), if_pos rfl]; rfl
  rw [if_neg c, if_neg c]
  by_cases h : k ≤ n
  · have e1 : n % k = (n - k) % k := by rw [Nat.mod_eq_sub_mod h]
    have e2 : n / k = (n - k) / k + 1 := by rw [Nat.div_eq_sub_div (by omega) h]
    rw [if_pos h, e1, e2]
    by_cases d : n = k
    · subst d
      rw [if_pos rfl, Nat.sub_self, Nat.zero_mod, if_pos rfl, if_pos rfl, Nat.zero_div]
      grind
    · rw [if_neg d, if_neg (show ¬ n - k = 0 by omega)]
      by_cases c2 : (n - k) % k = 0
      · rw [if_pos c2, if_pos c2, Int.pow_succ]
        grind
      · rw [if_neg c2, if_neg c2]
        grind
  · rw [if_neg h, Nat.mod_eq_of_lt (by omega), if_neg c, if_neg (show ¬ n = k by omega)]
    grind
theorem nw_up {c T : PS} {k : Nat} (hk : 1 ≤ k) (ε : Int) (hN : letI := psR; pD c = - T * c) : letI := psR; pD (c * pq k ε) = - (T + pZ k ε) * (c * pq k ε) := by
  letI := psR
  rw [pD_mul]
  refine fac_mul hN ?_
  refine PS.ext' (fun n => ?_)
  show (n : Int) * pq k ε n = - cv (pZ k ε) (pq k ε) n
  rw [cv_comm, pZ_pq hk]; omega
theorem nw_dn {c T : PS} {k : Nat} (hk : 1 ≤ k) (ε : Int) (hN : letI := psR; pD c = - T * c) : letI := psR; pD (c * pg k ε) = - (T - pZ k ε) * (c * pg k ε) := by
  letI := psR
  rw [pD_mul]
  have hg : pg k ε * pq k ε = (1 : PS) := by
    refine PS.ext' (fun n => ?_)
    show cv (pg k ε) (pq k ε) n = if n = 0 then ((1 : Nat) : Int) else 0
    rw [cv_comm, pg_pq hk]; rfl
  have hD : pD (pg k ε) * pq k ε + pg k ε * pD (pq k ε) = (0 : PS) := by
    rw [← pD_mul, hg]
    exact pD_c 1
  refine fac_div hN ?_ hg hD
  refine PS.ext' (fun n => ?_)
  show (n : Int) * pq k ε n = - cv (pZ k ε) (pq k ε) n
  rw [cv_comm, pZ_pq hk]; omega
