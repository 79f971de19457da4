theorem sm_pull {n : Nat} {f : Nat → Int} {a : Nat} (ha : a < n) : sm n f = f a + sm n (fun k => if k = a then 0 else f k) := by
  have h : sm n (fun k => f k - (if k = a then 0 else f k)) = f a := by
    rw [sm_one ha (fun i _ hi => by rw [if_neg hi]; omega), if_pos rfl]; omega
  rw [sm_sub] at h
  omega
/-- two indices changed about -/
def sw (a b k : Nat) : Nat := if k = a then b else if k = b then a else k
theorem sw_sw (a b k : Nat) : sw a b (sw a b k) = k := by
  unfold sw
  by_cases h1 : k = a
  · rw [if_pos h1]
    by_cases h2 : b = a
    · rw [if_pos h2, h2, h1]
    · rw [if_neg h2, if_pos rfl, h1]
  · rw [if_neg h1]
    by_cases h2 : k = b
    · rw [if_pos h2, if_pos rfl, h2]
    · rw [if_neg h2, if_neg h1, if_neg h2]
theorem sw_lt {a b k n : Nat} (ha : a < n) (hb : b < n) (hk : k < n) : sw a b k < n := by
  unfold sw
  split
  · exact hb
  · split
    · exact ha
    · exact hk
theorem sm_sw {n a b : Nat} (ha : a < n) (hb : b < n) (f : Nat → Int) : sm n (fun k => f (sw a b k)) = sm n f := by
  by_cases e : a = b
  · subst e
    refine sm_congr (fun k _ => ?_)
    unfold sw
    by_cases h : k = a
    · rw [if_pos h, h]
    · rw [if_neg h, if_neg h]
  · rw [sm_pull ha, sm_pull hb, sm_pull (f := f) ha, sm_pull (f := fun k => if k = a then 0 else f k) hb]
    have s1 : sw a b a = b := by unfold sw; rw [if_pos rfl]
    have s2 : sw a b b = a := by unfold sw; rw [if_neg (fun h => e h.symm), if_pos rfl]
    rw [s1, s2, if_neg (fun h => e h.symm), if_neg (fun h => e h.symm)]
    have s3 : sm n (fun k => if k = b then 0 else if k = a then 0 else f (sw a b k)) = sm n (fun k => if k = b then 0 else if k = a then 0 else f k) := by
      refine sm_congr (fun k _ => ?_)
      by_cases h1 : k = b
      · rw [if_pos h1, if_pos h1]
      · rw [if_neg h1, if_neg h1]
        by_cases h2 : k = a
        · rw [if_pos h2, if_pos h2]
        · rw [if_neg h2, if_neg h2]
          unfold sw
          rw [if_neg h2, if_neg h1]
    rw [s3]
    omega
def pm (a b : Nat) (A : Nat → Nat → Int) (i j : Nat) : Int := A (sw a b i) (sw a b j)
theorem mp_pm {n a b : Nat} (ha : a < n) (hb : b < n) (A : Nat → Nat → Int) (m i j : Nat) : mp n (pm a b A) m i j = mp n A m (sw a b i) (sw a b j) := by
  induction m generalizing j with
  | zero => rfl
  | succ m ih =>
    show sm n (fun k => mp n (pm a b A) m i k * pm a b A k j) = sm n (fun k => mp n A m (sw a b i) k * A k (sw a b j))
    rw [← sm_sw ha hb (fun k => mp n A m (sw a b i) k * A k (sw a b j))]
    exact sm_congr (fun k _ => by rw [ih]; rfl)
theorem gz_pm {n a b : Nat} (ha : a < n) (hb : b < n) (A : Nat → Nat → Int) (i j : Nat) : gz n (pm a b A) i j = gz n A (sw a b i) (sw a b j) := by
  refine PS.ext' (fun c => ?_)
  cases c with
  | zero =>
    show (if i = j then (1 : Int) else 0) = if sw a b i = sw a b j then 1 else 0
    by_cases h : i = j
    · rw [if_pos h, if_pos (by rw [h])]
    · rw [if_neg h, if_neg (fun k => h (by rw [← sw_sw a b i, k, sw_sw]))]
  | succ m => exact mp_pm ha hb A m i j
theorem Tz_co (A : Nat → Nat → Int) (n c : Nat) : Tz A n c = if c = 0 then 0 else sm n (fun i => gz n A i i c) := by
  show @sR PS psR n (fun i => gz n A i i) c - pc n c = _
  rw [sR_co]
  by_cases h : c = 0
  · subst h
    rw [if_pos rfl]
    show sm n (fun i => if i = i then (1 : Int) else 0) - (n : Int) = 0
    have h1 : ∀ n, sm n (fun i => if i = i then (1 : Int) else 0) = (n : Int) := by
      intro n
      induction n with
      | zero => rfl
      | succ n ih => show sm n _ + (if n = n then (1 : Int) else 0) = _; rw [ih, if_pos rfl]; omega
    rw [h1]; omega
  · rw [if_neg h]
    show _ - (if c = 0 then (n : Int) else 0) = _
    rw [if_neg h]; omega
theorem Tz_pm {n a b : Nat} (ha : a < n) (hb : b < n) (A : Nat → Nat → Int) : Tz (pm a b A) n = Tz A n := by
  refine PS.ext' (fun c => ?_)
  rw [Tz_co, Tz_co]
  by_cases h : c = 0
  · rw [if_pos h, if_pos h]
  · rw [if_neg h, if_neg h, ← sm_sw ha hb (fun i => gz n A i i c)]
    exact sm_congr (fun i _ => by rw [gz_pm ha hb])
/-- the coefficients are determined by the traces -/
theorem nw_co {T c : PS} (h : letI := psR; pD c = - T * c) (m : Nat) : (m : Int) * c m = - cv T c m := by
  letI := psR
  have h1 : pD c m = (- T * c) m := by rw [h]
  have h2 : - T * c = - (T * c) := by grind
  rw [h2] at h1
  exact h1
theorem nw_unique {T c c' : PS} (h : letI := psR; pD c = - T * c) (h' : letI := psR; pD c' = - T * c') (h0 : c 0 = c' 0) (hT : T 0 = 0) : c = c' := by
  have key : ∀ m k, k ≤ m → c k = c' k := by
    intro m
    induction m with
    | zero => intro k hk; rw [show k = 0 by omega]; exact h0
    | succ m ih =>
      intro k hk
      by_cases e : k ≤ m
      · exact ih k e
      · have ek : k = m + 1 := by omega
        subst ek
        have e1 := nw_co h (m + 1)
        have e2 := nw_co h' (m + 1)
        have e3 : cv T c (m + 1) = cv T c' (m + 1) := by
          unfold cv
          refine sm_congr (fun i hi => ?_)
          by_cases hi0 : i = 0
          · subst hi0; rw [hT, Int.zero_mul, Int.zero_mul]
          · rw [ih (m + 1 - i) (by omega)]
        rw [e3, ← e2] at e1
        exact Int.eq_of_mul_eq_mul_left (by omega) e1
  exact PS.ext' (fun m => key m m (Nat.le_refl m))
theorem cc_0 (A : Nat → Nat → Int) (n : Nat) : cc A n 0 = 1 := by
  induction n with
  | zero => rfl
  | succ n ih =>
    show cv (cc A n) (Ss A n) 0 = 1
    show (0 : Int) + cc A n 0 * Ss A n 0 = 1
    have : Ss A n 0 = 1 := by
      show (if (0 : Nat) = 0 then ((1 : Nat) : Int) else 0) - cv (lft A n n) pu 0 - cv (cv pu pu) (Qs A n) 0 = 1
      rw [cv_comm, cv_u, cv_assoc, cv_u, if_pos rfl, if_pos rfl]; rfl
    rw [ih, this]; rfl
theorem cc_pm {n a b : Nat} (ha : a < n) (hb : b < n) (A : Nat → Nat → Int) : cc (pm a b A) n = cc A n := by
  have h1 := cc_newton (pm a b A) n
  rw [Tz_pm ha hb] at h1
  exact nw_unique h1 (cc_newton A n) (by rw [cc_0, cc_0]) (by rw [Tz_co, if_pos rfl])
