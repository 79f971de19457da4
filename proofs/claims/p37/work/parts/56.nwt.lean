def pu : PS := fun n => if n = 1 then 1 else 0
/-- u times the derivative -/
def pD (a : PS) : PS := fun n => (n : Int) * a n
theorem cv_u (a : PS) (n : Nat) : cv pu a n = if n = 0 then 0 else a (n - 1) := by
  unfold cv
  by_cases h : n = 0
  · subst h
    rw [if_pos rfl]
    show (0 : Int) + pu 0 * a 0 = 0
    show (0 : Int) + (if (0 : Nat) = 1 then 1 else 0) * a 0 = 0
    rw [if_neg (by omega), Int.zero_mul]; rfl
  · rw [if_neg h, sm_one (k := 1) (by omega) (fun i _ hi => by show (if i = 1 then (1 : Int) else 0) * _ = 0; rw [if_neg hi, Int.zero_mul])]
    show (if (1 : Nat) = 1 then (1 : Int) else 0) * a (n - 1) = _
    rw [if_pos rfl, Int.one_mul]
theorem pD_mul (a b : PS) : letI := psR; pD (a * b) = pD a * b + a * pD b := by
  letI := psR
  refine PS.ext' (fun n => ?_)
  show (n : Int) * cv a b n = cv (pD a) b n + cv a (pD b) n
  unfold cv
  rw [← sm_mul, ← sm_add]
  refine sm_congr (fun i hi => ?_)
  show (n : Int) * (a i * b (n - i)) = (i : Int) * a i * b (n - i) + a i * (((n - i : Nat) : Int) * b (n - i))
  rw [show (n : Int) = (i : Int) + ((n - i : Nat) : Int) by omega]
  grind
theorem pD_add (a b : PS) : letI := psR; pD (a + b) = pD a + pD b := by
  letI := psR
  exact PS.ext' (fun n => Int.mul_add _ _ _)
theorem pD_sub (a b : PS) : letI := psR; pD (a - b) = pD a - pD b := by
  letI := psR
  exact PS.ext' (fun n => Int.mul_sub _ _ _)
theorem pD_c (z : Int) : letI := psR; pD (pc z) = 0 := by
  letI := psR
  refine PS.ext' (fun n => ?_)
  show (n : Int) * (if n = 0 then z else 0) = if n = 0 then 0 else 0
  by_cases h : n = 0
  · subst h; simp
  · rw [if_neg h, if_neg h, Int.mul_zero]
theorem pD_u : pD pu = pu := by
  refine PS.ext' (fun n => ?_)
  show (n : Int) * (if n = 1 then 1 else 0) = if n = 1 then 1 else 0
  by_cases h : n = 1
  · subst h; simp
  · rw [if_neg h, Int.mul_zero]
theorem sR_co (n : Nat) (f : Nat → PS) (c : Nat) : @sR PS psR n f c = sm n (fun i => f i c) := by
  induction n with
  | zero => show (if c = 0 then ((0 : Nat) : Int) else 0) = 0; split <;> rfl
  | succ n ih =>
    show @sR PS psR n f c + f n c = sm n _ + f n c
    rw [ih]
theorem pD_sR (n : Nat) (f : Nat → PS) : pD (@sR PS psR n f) = @sR PS psR n (fun i => pD (f i)) := by
  refine PS.ext' (fun c => ?_)
  show (c : Int) * @sR PS psR n f c = _
  rw [sR_co, sR_co, ← sm_mul]
  rfl
/-- the geometric series of a matrix -/
def gz (N : Nat) (A : Nat → Nat → Int) (i j : Nat) : PS
  | 0 => if i = j then 1 else 0
  | m + 1 => mp N A m i j
def lft (A : Nat → Nat → Int) (i j : Nat) : PS := pc (A i j)
theorem gz_l {N : Nat} (A : Nat → Nat → Int) {i j : Nat} (hj : j < N) (m : Nat) : gz N A i j (m + 1) = sm N (fun k => A i k * gz N A k j m) := by
  cases m with
  | zero =>
    show A i j = sm N (fun k => A i k * (if k = j then 1 else 0))
    rw [sm_one hj (fun k _ hk => by rw [if_neg hk, Int.mul_zero]), if_pos rfl, Int.mul_one]
  | succ m =>
    show mp N A (m + 1) i j = _
    rw [← mp_comm]
    rfl
theorem gz_r {N : Nat} (A : Nat → Nat → Int) {i j : Nat} (hi : i < N) (m : Nat) : gz N A i j (m + 1) = sm N (fun k => gz N A i k m * A k j) := by
  cases m with
  | zero =>
    show A i j = sm N (fun k => (if i = k then 1 else 0) * A k j)
    rw [sm_one hi (fun k _ hk => by rw [if_neg (fun h => hk h.symm), Int.zero_mul]), if_pos rfl, Int.one_mul]
  | succ m => rfl
theorem dl_co (i j c : Nat) : @dl PS psR i j c = if c = 0 then (if i = j then 1 else 0) else 0 := by
  unfold dl
  by_cases h : i = j
  · rw [if_pos h, if_pos h]; rfl
  · rw [if_neg h, if_neg h]; rfl
theorem gz_hg {N : Nat} (A : Nat → Nat → Int) : letI := psR; ∀ i j, i < N → j < N → gz N A i j = dl i j + pu * sR N (fun k => lft A i k * gz N A k j) := by
  letI := psR
  intro i j hi hj
  refine PS.ext' (fun c => ?_)
  show gz N A i j c = @dl PS psR i j c + cv pu (@sR PS psR N (fun k => cv (lft A i k) (gz N A k j))) c
  rw [dl_co, cv_u]
  cases c with
  | zero => rw [if_pos rfl, if_pos rfl]; show (if i = j then (1 : Int) else 0) = _; omega
  | succ m =>
    rw [if_neg (by omega), if_neg (by omega), gz_l A hj, sR_co, Int.zero_add]
    refine sm_congr (fun k _ => ?_)
    show _ = cv (pc (A i k)) (gz N A k j) (m + 1 - 1)
    rw [cv_c]; rfl
theorem gz_hg' {N : Nat} (A : Nat → Nat → Int) : letI := psR; ∀ i j, i < N → j < N → gz N A i j = dl i j + pu * sR N (fun k => gz N A i k * lft A k j) := by
  letI := psR
  intro i j hi hj
  refine PS.ext' (fun c => ?_)
  show gz N A i j c = @dl PS psR i j c + cv pu (@sR PS psR N (fun k => cv (gz N A i k) (lft A k j))) c
  rw [dl_co, cv_u]
  cases c with
  | zero => rw [if_pos rfl, if_pos rfl]; show (if i = j then (1 : Int) else 0) = _; omega
  | succ m =>
    rw [if_neg (by omega), if_neg (by omega), gz_r A hi, sR_co, Int.zero_add]
    refine sm_congr (fun k _ => ?_)
    show _ = cv (gz N A i k) (pc (A k j)) (m + 1 - 1)
    rw [cv_comm, cv_c, Int.mul_comm]; rfl
theorem ps_Uq (N : Nat) (A : Nat → Nat → Int) : @Uq PS psR pu (lft A) N := by
  letI := psR
  intro X hX
  have key : ∀ c i, i < N → X i c = 0 := by
    intro c
    induction c with
    | zero =>
      intro i hi
      rw [hX i hi]
      show cv pu _ 0 = 0
      rw [cv_u, if_pos rfl]
    | succ c ih =>
      intro i hi
      rw [hX i hi]
      show cv pu _ (c + 1) = 0
      rw [cv_u, if_neg (by omega), sR_co]
      refine sm_zero (fun k hk => ?_)
      show cv (pc (A i k)) (X k) (c + 1 - 1) = 0
      rw [cv_c, show c + 1 - 1 = c from rfl, ih k hk, Int.mul_zero]
  intro i hi
  refine PS.ext' (fun c => ?_)
  rw [key c i hi]
  show (0 : Int) = if c = 0 then 0 else 0
  split <;> rfl
theorem gz_add {N : Nat} (A : Nat → Nat → Int) (a b : Nat) {i j : Nat} (hi : i < N) (hj : j < N) : sm N (fun k => gz N A i k a * gz N A k j b) = gz N A i j (a + b) := by
  induction a generalizing i with
  | zero =>
    rw [sm_one hi (fun k _ hk => by show (if i = k then (1 : Int) else 0) * _ = 0; rw [if_neg (fun h => hk h.symm), Int.zero_mul])]
    show (if i = i then (1 : Int) else 0) * _ = _
    rw [if_pos rfl, Int.one_mul, Nat.zero_add]
  | succ a ih =>
    rw [show a + 1 + b = (a + b) + 1 by omega, gz_l A hj, sm_congr (g := fun k => sm N (fun l => A i l * gz N A l k a * gz N A k j b)) (fun k hk => by rw [gz_l A hk, ← sm_mulr]), sm_swap]
    refine sm_congr (fun l hl => ?_)
    rw [← ih hl, ← sm_mul]
    exact sm_congr (fun k _ => Int.mul_assoc _ _ _)
theorem gz_D {N : Nat} (A : Nat → Nat → Int) {i j : Nat} (hi : i < N) (hj : j < N) : letI := psR; pD (gz N A i j) = sR N (fun k => gz N A i k * gz N A k j) - gz N A i j := by
  letI := psR
  refine PS.ext' (fun c => ?_)
  show (c : Int) * gz N A i j c = @sR PS psR N (fun k => cv (gz N A i k) (gz N A k j)) c - gz N A i j c
  rw [sR_co]
  unfold cv
  rw [sm_swap, sm_congr (g := fun _ => gz N A i j c * 1) (fun a ha => by rw [gz_add A a (c - a) hi hj, show a + (c - a) = c by omega, Int.mul_one]), sm_mul]
  have h1 : ∀ n, sm n (fun _ => 1) = (n : Int) := by
    intro n
    induction n with
    | zero => rfl
    | succ n ih => show sm n _ + 1 = _; rw [ih]; omega
  rw [h1]
  have : ((c + 1 : Nat) : Int) = (c : Int) + 1 := by omega
  rw [this]
  grind
