/-! sums over sets of columns, row by row -/
def rmS (S : Nat → Bool) (c : Nat) : Nat → Bool := fun d => S d && !(d == c)
/-- whether an odd number of members lies above c -/
def par (S : Nat → Bool) (c : Nat) : Nat → Bool
  | 0 => false
  | n + 1 => par S c n ^^ (decide (c < n) && S n)
def cd (S : Nat → Bool) : Nat → Nat
  | 0 => 0
  | n + 1 => cd S n + if S n = true then 1 else 0
def al (m : Nat) : Nat → Bool := fun d => decide (d < m)
def sgb {R : Type} [Lean.Grind.CommRing R] (b : Bool) : R := if b = true then -1 else 1
def Lw {R : Type} [Lean.Grind.CommRing R] (N : Nat) (r : Nat → R) (v : (Nat → Bool) → R) (S : Nat → Bool) : R := sR N (fun c => if S c = true then sgb (par S c N) * (r c * v (rmS S c)) else 0)
def Dk {R : Type} [Lean.Grind.CommRing R] (N : Nat) (X : Nat → Nat → R) : Nat → (Nat → Bool) → R
  | 0 => fun S => if cd S N = 0 then 1 else 0
  | k + 1 => Lw N (X k) (Dk N X k)
theorem rmS_rmS (S : Nat → Bool) (c d : Nat) : rmS (rmS S c) d = rmS (rmS S d) c := by
  funext e
  unfold rmS
  generalize S e = p
  generalize (e == c) = q
  generalize (e == d) = r
  cases p <;> cases q <;> cases r <;> rfl
theorem rmS_self (S : Nat → Bool) (c : Nat) : rmS S c c = false := by
  unfold rmS
  simp
theorem rmS_ne (S : Nat → Bool) {c d : Nat} (h : d ≠ c) : rmS S c d = S d := by
  unfold rmS
  simp [h]
theorem par_rmS (S : Nat → Bool) (c d N : Nat) : par (rmS S c) d N = (par S d N ^^ (decide (d < c) && (decide (c < N) && S c))) := by
  induction N with
  | zero => simp [par]
  | succ n ih =>
    show (par (rmS S c) d n ^^ (decide (d < n) && rmS S c n)) = ((par S d n ^^ (decide (d < n) && S n)) ^^ (decide (d < c) && (decide (c < n + 1) && S c)))
    rw [ih]
    by_cases h : n = c
    · subst h
      rw [rmS_self]
      have h1 : decide (n < n) = false := decide_eq_false (Nat.lt_irrefl n)
      have h2 : decide (n < n + 1) = true := decide_eq_true (Nat.lt_succ_self n)
      rw [h1, h2]
      generalize par S d n = p
      generalize decide (d < n) = q
      generalize S n = r
      cases p <;> cases q <;> cases r <;> rfl
    · rw [rmS_ne S h]
      have h1 : decide (c < n + 1) = decide (c < n) := by
        by_cases h2 : c < n
        · rw [decide_eq_true h2, decide_eq_true (by omega)]
        · rw [decide_eq_false h2, decide_eq_false (by omega)]
      rw [h1]
      generalize par S d n = p
      generalize decide (d < n) = q
      generalize S n = r
      generalize (decide (d < c) && (decide (c < n) && S c)) = s
      cases p <;> cases q <;> cases r <;> cases s <;> rfl
theorem sgb_t {R : Type} [Lean.Grind.CommRing R] (b : Bool) : (sgb (b ^^ true) : R) = - sgb b := by
  cases b <;> unfold sgb <;> simp <;> grind
theorem sgb_f {R : Type} [Lean.Grind.CommRing R] (b : Bool) : (sgb (b ^^ false) : R) = sgb b := by
  cases b <;> rfl
theorem sum_anti {R : Type} [Lean.Grind.CommRing R] {n : Nat} {F : Nat → Nat → R} (h1 : ∀ c d, c < n → d < n → c ≠ d → F c d + F d c = 0) (h2 : ∀ c, c < n → F c c = 0) : sR n (fun c => sR n (fun d => F c d)) = 0 := by
  induction n with
  | zero => rfl
  | succ n ih =>
    rw [sR_s, sR_congr (g := fun c => sR n (fun d => F c d) + F c n) (fun c _ => sR_s n _), sR_add, ih (fun c d hc hd he => h1 c d (by omega) (by omega) he) (fun c hc => h2 c (by omega)), sR_s, h2 n (by omega)]
    have h3 : sR n (fun c => F c n) + sR n (fun d => F n d) = 0 := by
      rw [← sR_add]
      exact sR_zero (fun i hi => h1 i n (by omega) (by omega) (by omega))
    grind
/-- the summand of two rows, one behind the other -/
def F2 {R : Type} [Lean.Grind.CommRing R] (N : Nat) (r s : Nat → R) (v : (Nat → Bool) → R) (S : Nat → Bool) (c d : Nat) : R := if S c = true then (if rmS S c d = true then sgb (par S c N) * (sgb (par (rmS S c) d N) * (r c * s d * v (rmS (rmS S c) d))) else 0) else 0
theorem Lw_two {R : Type} [Lean.Grind.CommRing R] (N : Nat) (r s : Nat → R) (v : (Nat → Bool) → R) (S : Nat → Bool) : Lw N r (Lw N s v) S = sR N (fun c => sR N (fun d => F2 N r s v S c d)) := by
  refine sR_congr (fun c _ => ?_)
  by_cases h : S c = true
  · rw [if_pos h]
    have e : sgb (par S c N) * (r c * Lw N s v (rmS S c)) = (sgb (par S c N) * r c) * Lw N s v (rmS S c) := by grind
    rw [e]
    unfold Lw
    rw [← sR_mul]
    refine sR_congr (fun d _ => ?_)
    unfold F2
    rw [if_pos h]
    by_cases h2 : rmS S c d = true
    · rw [if_pos h2, if_pos h2]; grind
    · rw [if_neg h2, if_neg h2]; grind
  · rw [if_neg h]
    refine (sR_zero (fun d _ => ?_)).symm
    unfold F2
    rw [if_neg h]
theorem F2_same {R : Type} [Lean.Grind.CommRing R] (N : Nat) (r s : Nat → R) (v : (Nat → Bool) → R) (S : Nat → Bool) (c : Nat) : F2 N r s v S c c = 0 := by
  unfold F2
  rw [rmS_self]
  by_cases h : S c = true
  · rw [if_pos h, if_neg (by decide)]
  · rw [if_neg h]
theorem F2_anti {R : Type} [Lean.Grind.CommRing R] {N : Nat} (r s : Nat → R) (v : (Nat → Bool) → R) (S : Nat → Bool) {c d : Nat} (hc : c < N) (hd : d < N) (hne : c ≠ d) : F2 N r s v S c d + F2 N s r v S d c = 0 := by
  unfold F2
  rw [rmS_ne S (show d ≠ c from fun h => hne h.symm), rmS_ne S hne]
  by_cases h1 : S c = true
  · by_cases h2 : S d = true
    · rw [if_pos h1, if_pos h2, if_pos h2, if_pos h1, par_rmS, par_rmS, rmS_rmS S d c, h1, h2, decide_eq_true hc, decide_eq_true hd]
      by_cases h3 : d < c
      · rw [decide_eq_true h3, decide_eq_false (show ¬ c < d by omega)]
        rw [show (true && (true && true)) = true from rfl, show (false && (true && true)) = false from rfl, sgb_t, sgb_f]
        grind
      · rw [decide_eq_false h3, decide_eq_true (show c < d by omega)]
        rw [show (true && (true && true)) = true from rfl, show (false && (true && true)) = false from rfl, sgb_t, sgb_f]
        grind
    · rw [if_pos h1, if_neg h2, if_neg h2]; grind
  · rw [if_neg h1, if_neg h1]
    split <;> grind
theorem Lw_anti {R : Type} [Lean.Grind.CommRing R] (N : Nat) (r s : Nat → R) (v : (Nat → Bool) → R) (S : Nat → Bool) : Lw N r (Lw N s v) S + Lw N s (Lw N r v) S = 0 := by
  rw [Lw_two, Lw_two, ← sR_add, sR_congr (g := fun c => sR N (fun d => F2 N r s v S c d + F2 N s r v S c d)) (fun c _ => (sR_add _ _ _).symm)]
  refine sum_anti (fun c d hc hd hne => ?_) (fun c _ => ?_)
  · have h1 := F2_anti r s v S hc hd hne
    have h2 := F2_anti s r v S hc hd hne
    grind
  · rw [F2_same, F2_same]; grind
theorem Lw_sq {R : Type} [Lean.Grind.CommRing R] (N : Nat) (r : Nat → R) (v : (Nat → Bool) → R) (S : Nat → Bool) : Lw N r (Lw N r v) S = 0 := by
  rw [Lw_two]
  exact sum_anti (fun c d hc hd hne => F2_anti r r v S hc hd hne) (fun c _ => F2_same N r r v S c)
theorem Lw_congr {R : Type} [Lean.Grind.CommRing R] {N : Nat} {r r' : Nat → R} {v v' : (Nat → Bool) → R} {S : Nat → Bool} (h : ∀ c, c < N → S c = true → r c = r' c) (hv : ∀ c, c < N → S c = true → v (rmS S c) = v' (rmS S c)) : Lw N r v S = Lw N r' v' S := by
  refine sR_congr (fun c hc => ?_)
  by_cases hS : S c = true
  · rw [if_pos hS, if_pos hS, h c hc hS, hv c hc hS]
  · rw [if_neg hS, if_neg hS]
theorem Lw_0 {R : Type} [Lean.Grind.CommRing R] {N : Nat} {r : Nat → R} {v : (Nat → Bool) → R} {S : Nat → Bool} (hv : ∀ T, v T = 0) : Lw N r v S = 0 := by
  refine sR_zero (fun c _ => ?_)
  by_cases hS : S c = true
  · rw [if_pos hS, hv]; grind
  · rw [if_neg hS]
theorem Lw_lin {R : Type} [Lean.Grind.CommRing R] (N k : Nat) (r a : Nat → R) (X : Nat → Nat → R) (v : (Nat → Bool) → R) (S : Nat → Bool) : Lw N (fun c => r c - sR k (fun i => a i * X i c)) v S = Lw N r v S - sR k (fun i => a i * Lw N (X i) v S) := by
  have e : sR k (fun i => a i * Lw N (X i) v S) = sR N (fun c => sR k (fun i => a i * (if S c = true then sgb (par S c N) * (X i c * v (rmS S c)) else 0))) := by
    rw [sR_swap]
    exact sR_congr (fun i _ => (sR_mul _ _ _).symm)
  rw [e]
  unfold Lw
  rw [← sR_sub]
  refine sR_congr (fun c _ => ?_)
  by_cases hS : S c = true
  · rw [if_pos hS, if_pos hS, sR_congr (g := fun i => (sgb (par S c N) * v (rmS S c)) * (a i * X i c)) (fun i _ => by rw [if_pos hS]; grind), sR_mul]
    grind
  · rw [if_neg hS, if_neg hS, sR_zero (fun i _ => by rw [if_neg hS]; grind)]
    grind
theorem Dk_kill {R : Type} [Lean.Grind.CommRing R] (N : Nat) (X : Nat → Nat → R) : ∀ k i, i < k → ∀ S, Lw N (X i) (Dk N X k) S = 0 := by
  intro k
  induction k with
  | zero => intro i hi; exact absurd hi (Nat.not_lt_zero i)
  | succ k ih =>
    intro i hi S
    show Lw N (X i) (Lw N (X k) (Dk N X k)) S = 0
    by_cases h : i = k
    · rw [h]; exact Lw_sq N (X k) _ S
    · have h1 := Lw_anti N (X i) (X k) (Dk N X k) S
      have h2 : Lw N (X k) (Lw N (X i) (Dk N X k)) S = 0 := Lw_0 (fun T => ih i (by omega) T)
      grind
/-- a row less a sum of the rows before it -/
theorem Dk_comb {R : Type} [Lean.Grind.CommRing R] (N : Nat) (X : Nat → Nat → R) (k : Nat) (r a : Nat → R) (S : Nat → Bool) : Lw N r (Dk N X k) S = Lw N (fun c => r c - sR k (fun i => a i * X i c)) (Dk N X k) S := by
  rw [Lw_lin, sR_zero (f := fun i => a i * Lw N (X i) (Dk N X k) S) (fun i hi => by rw [Dk_kill N X k i hi S]; grind)]
  grind
theorem par_al (k : Nat) : ∀ N, par (al (k + 1)) k N = false := by
  intro N
  induction N with
  | zero => rfl
  | succ n ih =>
    show (par (al (k + 1)) k n ^^ (decide (k < n) && decide (n < k + 1))) = false
    rw [ih]
    by_cases h : k < n
    · rw [decide_eq_false (show ¬ n < k + 1 by omega)]
      cases decide (k < n) <;> rfl
    · rw [decide_eq_false h]; rfl
theorem rmS_al (k : Nat) : rmS (al (k + 1)) k = al k := by
  funext d
  unfold rmS al
  by_cases h : d = k
  · subst h; simp
  · have h1 : (d == k) = false := by simp [h]
    rw [h1]
    by_cases h2 : d < k
    · rw [decide_eq_true h2, decide_eq_true (by omega)]; rfl
    · rw [decide_eq_false h2, decide_eq_false (by omega)]; rfl
/-- one column alone is left in the last row -/
theorem Lw_last {R : Type} [Lean.Grind.CommRing R] {N k : Nat} (hk : k < N) (w : Nat → R) (v : (Nat → Bool) → R) (h : ∀ c, c < k → w c = 0) : Lw N w v (al (k + 1)) = w k * v (al k) := by
  unfold Lw
  have hS : al (k + 1) k = true := decide_eq_true (by omega)
  rw [sR_one hk (fun c hc hne => by
    by_cases h1 : al (k + 1) c = true
    · have h2 : c < k + 1 := of_decide_eq_true h1
      rw [if_pos h1, h c (by omega)]; grind
    · rw [if_neg h1]), if_pos hS, par_al, rmS_al]
  unfold sgb
  rw [if_neg (by decide)]
  grind
theorem Dk_schur {R : Type} [Lean.Grind.CommRing R] {N k : Nat} (hk : k < N) (X : Nat → Nat → R) (a : Nat → R) (h : ∀ c, c < k → X k c = sR k (fun i => a i * X i c)) : Dk N X (k + 1) (al (k + 1)) = (X k k - sR k (fun i => a i * X i k)) * Dk N X k (al k) := by
  show Lw N (X k) (Dk N X k) (al (k + 1)) = _
  rw [Dk_comb N X k (X k) a, Lw_last hk _ _ (fun c hc => by rw [h c hc]; grind)]
theorem cd_rmS (S : Nat → Bool) (c N : Nat) : cd S N = cd (rmS S c) N + (if c < N ∧ S c = true then 1 else 0) := by
  induction N with
  | zero => rfl
  | succ n ih =>
    show cd S n + (if S n = true then 1 else 0) = cd (rmS S c) n + (if rmS S c n = true then 1 else 0) + _
    rw [ih]
    by_cases h : n = c
    · subst h
      rw [rmS_self, if_neg (fun q => Nat.lt_irrefl n q.1), if_neg (show ¬ false = true by decide)]
      by_cases h2 : S n = true
      · rw [if_pos h2, if_pos ⟨Nat.lt_succ_self n, h2⟩]
      · rw [if_neg h2, if_neg (fun q => h2 q.2)]
    · rw [rmS_ne S h]
      by_cases h2 : c < n ∧ S c = true
      · rw [if_pos h2, if_pos (show c < n + 1 ∧ S c = true from ⟨by omega, h2.2⟩)]; omega
      · rw [if_neg h2, if_neg (show ¬ (c < n + 1 ∧ S c = true) from fun q => h2 ⟨by omega, q.2⟩)]; omega
theorem Dk_card {R : Type} [Lean.Grind.CommRing R] (N : Nat) (X : Nat → Nat → R) : ∀ k S, cd S N ≠ k → Dk N X k S = 0 := by
  intro k
  induction k with
  | zero => intro S h; exact if_neg h
  | succ k ih =>
    intro S h
    refine sR_zero (fun c hc => ?_)
    by_cases hS : S c = true
    · have h1 := cd_rmS S c N
      rw [if_pos ⟨hc, hS⟩] at h1
      rw [if_pos hS, ih (rmS S c) (by omega)]; grind
    · rw [if_neg hS]
theorem cd_al (m : Nat) : ∀ N, cd (al m) N = min m N := by
  intro N
  induction N with
  | zero => show 0 = min m 0; omega
  | succ n ih =>
    show cd (al m) n + (if decide (n < m) = true then 1 else 0) = _
    rw [ih]
    by_cases h : n < m
    · rw [if_pos (decide_eq_true h)]; omega
    · rw [if_neg (by rw [decide_eq_true_eq]; exact h)]; omega
