/-! the matrix of the vertices: twice as wide, and what is left of it -/
def adj (x y : Nat → Nat) (E i j : Nat) : Int := sm (2 * E) (fun e => if tl x y e = i ∧ hd x y e = j then 1 else 0)
def VM (x y : Nat → Nat) (E a i j : Nat) : Int := if i < a ∧ j = a + i then 1 - (degN x y i E : Int) else if a ≤ i ∧ j + a = i then 1 else adj x y E i j
def sig (a i : Nat) : Nat := if i < a then i + a else i - a
def VS (x y : Nat → Nat) (E a i j : Nat) : Int := VM x y E a (sig a i) (sig a j)
def Bv (x y : Nat → Nat) (E i c : Nat) : PS := letI := psR; dl i c - pu * pc (adj x y E i c) + (if i = c then pu * pu * pc ((degN x y i E : Int) - 1) else 0)
theorem sm_app (a b : Nat) (f : Nat → Int) : sm (a + b) f = sm a f + sm b (fun i => f (a + i)) := by
  induction b with
  | zero => show sm a f = sm a f + 0; omega
  | succ b ih =>
    show sm (a + b) f + f (a + b) = sm a f + (sm b (fun i => f (a + i)) + f (a + b))
    rw [ih]; omega
theorem sR_app {R : Type} [Lean.Grind.CommRing R] (a b : Nat) (f : Nat → R) : sR (a + b) f = sR a f + sR b (fun i => f (a + i)) := by
  induction b with
  | zero =>
    have : sR 0 (fun i => f (a + i)) = 0 := rfl
    rw [this, Nat.add_zero]; grind
  | succ b ih =>
    have e1 : sR (a + (b + 1)) f = sR (a + b) f + f (a + b) := rfl
    have e2 : sR (b + 1) (fun i => f (a + i)) = sR b (fun i => f (a + i)) + f (a + b) := rfl
    rw [e1, e2, ih]; grind
theorem sm_sig (a : Nat) (f : Nat → Int) : sm (a + a) (fun i => f (sig a i)) = sm (a + a) f := by
  rw [sm_app, sm_app, sm_congr (n := a) (f := fun i => f (sig a i)) (g := fun i => f (a + i)) (fun i hi => by
    show f (sig a i) = _
    unfold sig
    rw [if_pos hi, Nat.add_comm]), sm_congr (n := a) (f := fun i => f (sig a (a + i))) (g := f) (fun i hi => by
    show f (sig a (a + i)) = _
    unfold sig
    rw [if_neg (by omega), show a + i - a = i by omega])]
  omega
theorem mp_sig (a : Nat) (A : Nat → Nat → Int) (m i j : Nat) : mp (a + a) (fun i j => A (sig a i) (sig a j)) m i j = mp (a + a) A m (sig a i) (sig a j) := by
  induction m generalizing j with
  | zero => rfl
  | succ m ih =>
    show sm (a + a) (fun k => mp (a + a) (fun i j => A (sig a i) (sig a j)) m i k * A (sig a k) (sig a j)) = sm (a + a) (fun k => mp (a + a) A m (sig a i) k * A k (sig a j))
    rw [← sm_sig a (fun k => mp (a + a) A m (sig a i) k * A k (sig a j))]
    exact sm_congr (fun k _ => by rw [ih])
theorem cc_tr {A B : Nat → Nat → Int} {n : Nat} (h : ∀ m, sm n (fun i => mp n A m i i) = sm n (fun i => mp n B m i i)) : cc A n = cc B n := by
  have hT : Tz A n = Tz B n := PS.ext' (fun c => by
    rw [Tz_co, Tz_co]
    cases c with
    | zero => rfl
    | succ m =>
      rw [if_neg (by omega), if_neg (by omega)]
      exact h m)
  have h1 := cc_newton A n
  rw [hT] at h1
  exact nw_unique h1 (cc_newton B n) (by rw [cc_0, cc_0]) (by rw [Tz_co, if_pos rfl])
theorem cc_VS (x y : Nat → Nat) (E a : Nat) : cc (VM x y E a) (a + a) = cc (VS x y E a) (a + a) := by
  refine cc_tr (fun m => ?_)
  rw [← sm_sig a (fun i => mp (a + a) (VM x y E a) m i i)]
  exact sm_congr (fun i _ => (mp_sig a (VM x y E a) m i i).symm)
section VER
variable {v e : Int32} {f s n now : Nat → Int32} {a E : Nat} {x y : Nat → Nat}
theorem adj_out (hG : GA v e f s n now 0 a E x y) {i j : Nat} (h : a ≤ i ∨ a ≤ j) : adj x y E i j = 0 := by
  refine sm_zero (fun d hd' => if_neg (fun q => ?_))
  have h1 := tl_lt hG hd'
  have h2 := hd_lt hG hd'
  omega
theorem adj_self (hG : GA v e f s n now 0 a E x y) (i : Nat) : adj x y E i i = 0 := by
  refine sm_zero (fun d hd' => if_neg (fun q => ?_))
  have h2 := (hG.2.2.2.2.2.2.2 (d / 2) (by omega)).2.2.1
  obtain ⟨q1, q2⟩ := q
  have q3 := q1.trans q2.symm
  unfold hd tl at q3
  by_cases c : d % 2 = 0
  · rw [if_pos c, if_pos c] at q3; exact h2 q3
  · rw [if_neg c, if_neg c] at q3; exact h2 q3.symm
/-- the upper rows, swapped: one and minus u -/
theorem iuS_top (hG : GA v e f s n now 0 a E x y) {i : Nat} (hi : i < a) (j : Nat) : letI := psR; iu (VS x y E a) i j = dl i j - (if j = a + i then pu else 0) := by
  letI := psR
  have e1 : iu (VS x y E a) i j = dl i j - pu * pc (VS x y E a i j) := rfl
  have e2 : VS x y E a i j = if j = a + i then 1 else 0 := by
    unfold VS VM
    have s1 : sig a i = i + a := if_pos hi
    rw [s1, if_neg (by omega)]
    by_cases h : j = a + i
    · have s2 : sig a j = i := by unfold sig; rw [if_neg (by omega)]; omega
      rw [s2, if_pos (by omega), if_pos h]
    · have s2 : ¬ (a ≤ i + a ∧ sig a j + a = i + a) := by
        unfold sig
        split <;> omega
      rw [if_neg s2, if_neg h, adj_out hG (Or.inl (by omega))]
  rw [e1, e2]
  by_cases h : j = a + i
  · rw [if_pos h, if_pos h]
    have : pc 1 = (1 : PS) := rfl
    rw [this]; grind
  · rw [if_neg h, if_neg h]
    have : pc 0 = (0 : PS) := rfl
    rw [this]; grind
theorem iuS_bot (hG : GA v e f s n now 0 a E x y) {k : Nat} (hk : k < a) : letI := psR; (∀ j, j < a → iu (VS x y E a) (a + k) j = if j = k then pu * pc ((degN x y k E : Int) - 1) else 0) ∧ (∀ w, w < a → iu (VS x y E a) (a + k) (a + w) = dl k w - pu * pc (adj x y E k w)) := by
  letI := psR
  have s1 : sig a (a + k) = k := by unfold sig; rw [if_neg (by omega)]; omega
  constructor
  · intro j hj
    have e1 : iu (VS x y E a) (a + k) j = dl (a + k) j - pu * pc (VS x y E a (a + k) j) := rfl
    have e0 : (dl (a + k) j : PS) = 0 := by unfold dl; rw [if_neg (by omega)]
    have s2 : sig a j = j + a := if_pos hj
    have e2 : VS x y E a (a + k) j = if j = k then 1 - (degN x y k E : Int) else 0 := by
      unfold VS VM
      rw [s1, s2]
      by_cases h : j = k
      · rw [if_pos (by omega), if_pos h]
      · rw [if_neg (by omega), if_neg (by omega), if_neg h, adj_out hG (Or.inr (by omega))]
    rw [e1, e0, e2]
    by_cases h : j = k
    · rw [if_pos h, if_pos h]
      have : pc (1 - (degN x y k E : Int)) = - pc ((degN x y k E : Int) - 1) := PS.ext' (fun c => by
        show (if c = 0 then 1 - (degN x y k E : Int) else 0) = - (if c = 0 then (degN x y k E : Int) - 1 else 0)
        split <;> omega)
      rw [this]; grind
    · rw [if_neg h, if_neg h]
      have : pc 0 = (0 : PS) := rfl
      rw [this]; grind
  · intro w hw
    have e1 : iu (VS x y E a) (a + k) (a + w) = dl (a + k) (a + w) - pu * pc (VS x y E a (a + k) (a + w)) := rfl
    have e0 : (dl (a + k) (a + w) : PS) = dl k w := by
      unfold dl
      by_cases h : k = w
      · rw [if_pos h, if_pos (by omega)]
      · rw [if_neg h, if_neg (by omega)]
    have s2 : sig a (a + w) = w := by unfold sig; rw [if_neg (by omega)]; omega
    have e2 : VS x y E a (a + k) (a + w) = adj x y E k w := by
      unfold VS VM
      rw [s1, s2, if_neg (by omega), if_neg (by omega)]
    rw [e1, e0, e2]
def jn (a : Nat) (S : Nat → Bool) : Nat → Bool := fun d => if d < a then true else S (d - a)
theorem par_lo (S : Nat → Bool) (c : Nat) : ∀ N, N ≤ c + 1 → par S c N = false := by
  intro N
  induction N with
  | zero => intro _; rfl
  | succ n ih =>
    intro h
    show (par S c n ^^ (decide (c < n) && S n)) = false
    rw [ih (by omega), decide_eq_false (by omega)]; rfl
theorem jn_hi (a : Nat) (S : Nat → Bool) (c : Nat) : jn a S (a + c) = S c := by
  unfold jn
  rw [if_neg (by omega), show a + c - a = c by omega]
theorem par_jn (a : Nat) (S : Nat → Bool) (c : Nat) : ∀ m, par (jn a S) (a + c) (a + m) = par S c m := by
  intro m
  induction m with
  | zero => exact par_lo _ _ _ (by omega)
  | succ m ih =>
    show (par (jn a S) (a + c) (a + m) ^^ (decide (a + c < a + m) && jn a S (a + m))) = (par S c m ^^ (decide (c < m) && S m))
    rw [ih, jn_hi]
    have : decide (a + c < a + m) = decide (c < m) := by
      by_cases h : c < m
      · rw [decide_eq_true h, decide_eq_true (by omega)]
      · rw [decide_eq_false h, decide_eq_false (by omega)]
    rw [this]
theorem rmS_jn (a : Nat) (S : Nat → Bool) (c : Nat) : rmS (jn a S) (a + c) = jn a (rmS S c) := by
  funext d
  unfold rmS jn
  by_cases h : d < a
  · rw [if_pos h, if_pos h]
    have : (d == a + c) = false := by simp; omega
    rw [this]; rfl
  · rw [if_neg h, if_neg h]
    have : (d == a + c) = (d - a == c) := by
      by_cases h2 : d = a + c
      · have h3 : d - a = c := by omega
        simp [h2]
      · have h3 : ¬ d - a = c := by omega
        rw [beq_eq_false_iff_ne.mpr h2, beq_eq_false_iff_ne.mpr h3]
    rw [this]
theorem cd_jn (a : Nat) (S : Nat → Bool) : ∀ m, cd (jn a S) (a + m) = a + cd S m := by
  intro m
  induction m with
  | zero =>
    have : ∀ b, b ≤ a → cd (jn a S) b = b := by
      intro b
      induction b with
      | zero => intro _; rfl
      | succ b ih =>
        intro hb
        show cd (jn a S) b + (if jn a S b = true then 1 else 0) = b + 1
        rw [ih (by omega)]
        have : jn a S b = true := if_pos (by omega)
        rw [if_pos this]
    exact this a (Nat.le_refl a)
  | succ m ih =>
    show cd (jn a S) (a + m) + (if jn a S (a + m) = true then 1 else 0) = a + (cd S m + if S m = true then 1 else 0)
    rw [ih, jn_hi]; omega
theorem par_ext {S T : Nat → Bool} (c : Nat) : ∀ N, (∀ d, d < N → S d = T d) → par S c N = par T c N := by
  intro N
  induction N with
  | zero => intro _; rfl
  | succ n ih =>
    intro h
    show (par S c n ^^ (decide (c < n) && S n)) = (par T c n ^^ (decide (c < n) && T n))
    rw [ih (fun d hd => h d (by omega)), h n (by omega)]
theorem cd_ext {S T : Nat → Bool} : ∀ N, (∀ d, d < N → S d = T d) → cd S N = cd T N := by
  intro N
  induction N with
  | zero => intro _; rfl
  | succ n ih =>
    intro h
    show cd S n + _ = cd T n + _
    rw [ih (fun d hd => h d (by omega)), h n (by omega)]
theorem Dk_ext {R : Type} [Lean.Grind.CommRing R] (N : Nat) (X : Nat → Nat → R) : ∀ k (S T : Nat → Bool), (∀ d, d < N → S d = T d) → Dk N X k S = Dk N X k T := by
  intro k
  induction k with
  | zero =>
    intro S T h
    show (if cd S N = 0 then (1 : R) else 0) = if cd T N = 0 then 1 else 0
    rw [cd_ext N h]
  | succ k ih =>
    intro S T h
    refine sR_congr (fun c hc => ?_)
    rw [h c hc, par_ext c N h, ih (rmS S c) (rmS T c) (fun d hd => by unfold rmS; rw [h d hd])]
theorem cd_0 {S : Nat → Bool} : ∀ N, cd S N = 0 → ∀ d, d < N → S d = false := by
  intro N
  induction N with
  | zero => intro _ d hd; exact absurd hd (Nat.not_lt_zero d)
  | succ n ih =>
    intro h d hd
    have h : cd S n + (if S n = true then 1 else 0) = 0 := h
    by_cases e : d = n
    · rw [e]
      by_cases h2 : S n = true
      · rw [if_pos h2] at h; omega
      · simpa using h2
    · exact ih (by omega) d (by omega)
theorem VS_low (hG : GA v e f s n now 0 a E x y) : letI := psR; ∀ k, k ≤ a → Dk (a + a) (iu (VS x y E a)) k (al k) = 1 := by
  letI := psR
  intro k
  induction k with
  | zero =>
    intro _
    show (if cd (al 0) (a + a) = 0 then (1 : PS) else 0) = 1
    rw [cd_al, if_pos (by omega)]
  | succ k ih =>
    intro hk
    have z : ∀ c, sR k (fun i => (0 : PS) * iu (VS x y E a) i c) = 0 := fun c => sR_zero (fun i _ => by grind)
    rw [Dk_schur (by omega) (iu (VS x y E a)) (fun _ => 0) (fun c hc => by
      rw [z, iuS_top hG (by omega), if_neg (by omega)]
      have : (dl k c : PS) = 0 := by unfold dl; rw [if_neg (by omega)]
      rw [this]; grind), z, ih (by omega), iuS_top hG (by omega), if_neg (by omega)]
    have : (dl k k : PS) = 1 := by unfold dl; rw [if_pos rfl]
    rw [this]; grind
/-- the lower rows, less the upper ones -/
theorem VS_high (hG : GA v e f s n now 0 a E x y) : letI := psR; ∀ k, k ≤ a → ∀ S, Dk (a + a) (iu (VS x y E a)) (a + k) (jn a S) = Dk a (Bv x y E) k S := by
  letI := psR
  intro k
  induction k with
  | zero =>
    intro _ S
    show Dk (a + a) (iu (VS x y E a)) a (jn a S) = if cd S a = 0 then (1 : PS) else 0
    by_cases h : cd S a = 0
    · rw [if_pos h, ← VS_low hG a (Nat.le_refl a)]
      refine Dk_ext _ _ _ _ _ (fun d hd => ?_)
      unfold jn al
      by_cases h2 : d < a
      · rw [if_pos h2, decide_eq_true h2]
      · rw [if_neg h2, decide_eq_false h2, cd_0 a h (d - a) (by omega)]
    · rw [if_neg h]
      exact Dk_card _ _ _ _ (by rw [cd_jn]; omega)
  | succ k ih =>
    intro hk S
    obtain ⟨b1, b2⟩ := iuS_bot hG (show k < a by omega)
    show Lw (a + a) (iu (VS x y E a) (a + k)) (Dk (a + a) (iu (VS x y E a)) (a + k)) (jn a S) = Lw a (Bv x y E k) (Dk a (Bv x y E) k) S
    rw [Dk_comb (a + a) (iu (VS x y E a)) (a + k) (iu (VS x y E a) (a + k)) (fun i => if i = k then pu * pc ((degN x y k E : Int) - 1) else 0)]
    have hs : ∀ c, sR (a + k) (fun i => (if i = k then pu * pc ((degN x y k E : Int) - 1) else 0) * iu (VS x y E a) i c) = pu * pc ((degN x y k E : Int) - 1) * iu (VS x y E a) k c := fun c => by
      rw [sR_one (k := k) (by omega) (fun i _ hi => by rw [if_neg hi]; grind), if_pos rfl]
    unfold Lw
    rw [sR_app, sR_zero (n := a) (fun c hc => by
      have e1 : iu (VS x y E a) (a + k) c - sR (a + k) (fun i => (if i = k then pu * pc ((degN x y k E : Int) - 1) else 0) * iu (VS x y E a) i c) = 0 := by
        rw [hs, b1 c hc, iuS_top hG (by omega), if_neg (show ¬ c = a + k by omega)]
        by_cases h : c = k
        · have : (dl k c : PS) = 1 := by unfold dl; rw [if_pos h.symm]
          rw [if_pos h, this]; grind
        · have : (dl k c : PS) = 0 := by unfold dl; rw [if_neg (fun q => h q.symm)]
          rw [if_neg h, this]; grind
      dsimp only
      rw [e1]
      split <;> grind)]
    have e0 : ∀ z : PS, 0 + z = z := fun z => by grind
    rw [e0]
    refine sR_congr (fun c hc => ?_)
    rw [jn_hi, par_jn, rmS_jn, ih (by omega)]
    have e1 : iu (VS x y E a) (a + k) (a + c) - sR (a + k) (fun i => (if i = k then pu * pc ((degN x y k E : Int) - 1) else 0) * iu (VS x y E a) i (a + c)) = Bv x y E k c := by
      have e2 : Bv x y E k c = dl k c - pu * pc (adj x y E k c) + (if k = c then pu * pu * pc ((degN x y k E : Int) - 1) else 0) := rfl
      rw [hs, b2 c hc, iuS_top hG (by omega), e2]
      have e3 : (dl k (a + c) : PS) = 0 := by unfold dl; rw [if_neg (by omega)]
      rw [e3]
      by_cases h : k = c
      · rw [if_pos h, if_pos (by omega)]; grind
      · rw [if_neg h, if_neg (by omega)]; grind
    dsimp only
    rw [e1]
theorem cc_VM (hG : GA v e f s n now 0 a E x y) : letI := psR; cc (VM x y E a) (a + a) = Dk a (Bv x y E) a (al a) := by
  letI := psR
  rw [cc_VS, cc_D (a + a) (VS x y E a) (a + a) (Nat.le_refl _), ← VS_high hG a (Nat.le_refl a) (al a)]
  refine Dk_ext _ _ _ _ _ (fun d hd => ?_)
  unfold jn al
  rw [decide_eq_true hd]
  by_cases h : d < a
  · rw [if_pos h]
  · rw [if_neg h, decide_eq_true (by omega)]
end VER
