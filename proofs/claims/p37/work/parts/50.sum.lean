def iL (z : Int) : Int64 := Int64.ofInt z
theorem iL_add (a b : Int) : iL (a + b) = iL a + iL b := Int64.ofInt_add a b
theorem iL_mul (a b : Int) : iL (a * b) = iL a * iL b := Int64.ofInt_mul a b
theorem iL_sub (a b : Int) : iL (a - b) = iL a - iL b := Int64.ofInt_sub a b
theorem iL_0 : iL 0 = 0 := rfl
theorem iL_1 : iL 1 = 1 := rfl
theorem iL_2 : iL 2 = 2 := rfl
theorem iL_of (a : Int32) : a.toInt64 = iL a.toInt := by
  unfold iL
  exact (Int64.ofInt_int32ToInt a).symm
theorem updL_at {f : Nat → Int64} {i : Nat} {v : Int64} {k : Nat} : vp_updL f i v k = if k = i then v else f k := rfl
/-- sums -/
def sm : Nat → (Nat → Int) → Int
  | 0, _ => 0
  | n + 1, f => sm n f + f n
theorem sm_congr {n : Nat} {f g : Nat → Int} (h : ∀ i, i < n → f i = g i) : sm n f = sm n g := by
  induction n with
  | zero => rfl
  | succ n ih =>
    show sm n f + f n = sm n g + g n
    rw [ih (fun i hi => h i (by omega)), h n (by omega)]
theorem sm_add (n : Nat) (f g : Nat → Int) : sm n (fun i => f i + g i) = sm n f + sm n g := by
  induction n with
  | zero => rfl
  | succ n ih =>
    show sm n _ + (f n + g n) = (sm n f + f n) + (sm n g + g n)
    rw [ih]; omega
theorem sm_sub (n : Nat) (f g : Nat → Int) : sm n (fun i => f i - g i) = sm n f - sm n g := by
  induction n with
  | zero => rfl
  | succ n ih =>
    show sm n _ + (f n - g n) = (sm n f + f n) - (sm n g + g n)
    rw [ih]; omega
theorem sm_mul (n : Nat) (c : Int) (f : Nat → Int) : sm n (fun i => c * f i) = c * sm n f := by
  induction n with
  | zero => show (0 : Int) = c * 0; omega
  | succ n ih =>
    show sm n _ + c * f n = c * (sm n f + f n)
    rw [ih, Int.mul_add]
theorem sm_mulr (n : Nat) (c : Int) (f : Nat → Int) : sm n (fun i => f i * c) = sm n f * c := by
  induction n with
  | zero => show (0 : Int) = 0 * c; omega
  | succ n ih =>
    show sm n _ + f n * c = (sm n f + f n) * c
    rw [ih, Int.add_mul]
theorem sm_zero {n : Nat} {f : Nat → Int} (h : ∀ i, i < n → f i = 0) : sm n f = 0 := by
  induction n with
  | zero => rfl
  | succ n ih =>
    show sm n f + f n = 0
    rw [ih (fun i hi => h i (by omega)), h n (by omega)]; rfl
theorem sm_swap (n m : Nat) (f : Nat → Nat → Int) : sm n (fun i => sm m (fun j => f i j)) = sm m (fun j => sm n (fun i => f i j)) := by
  induction n with
  | zero => exact (sm_zero (fun _ _ => rfl)).symm
  | succ n ih =>
    show sm n _ + sm m (fun j => f n j) = sm m (fun j => sm n (fun i => f i j) + f n j)
    rw [ih, sm_add]
theorem sm_one {n : Nat} {f : Nat → Int} {k : Nat} (hk : k < n) (h : ∀ i, i < n → i ≠ k → f i = 0) : sm n f = f k := by
  induction n with
  | zero => exact absurd hk (Nat.not_lt_zero k)
  | succ n ih =>
    show sm n f + f n = f k
    by_cases e : k = n
    · subst e
      rw [sm_zero (fun i hi => h i (by omega) (by omega))]; omega
    · rw [ih (by omega) (fun i hi => h i (by omega)), h n (by omega) (by omega)]; omega
theorem sm_two (n : Nat) (f : Nat → Int) : sm (2 * n) f = sm n (fun k => f (2 * k) + f (2 * k + 1)) := by
  induction n with
  | zero => rfl
  | succ n ih =>
    show sm (2 * n) f + f (2 * n) + f (2 * n + 1) = sm n _ + (f (2 * n) + f (2 * n + 1))
    rw [ih]; omega
theorem xor1_even (k : Nat) : (2 * k) ^^^ 1 = 2 * k + 1 := by rw [xor1, if_pos (by omega)]
theorem xor1_odd (k : Nat) : (2 * k + 1) ^^^ 1 = 2 * k := by rw [xor1, if_neg (by omega)]; omega
theorem xor11 (k : Nat) : k ^^^ 1 ^^^ 1 = k := by rw [Nat.xor_assoc, Nat.xor_self, Nat.xor_zero]
theorem sm_xor (n : Nat) (f : Nat → Int) : sm (2 * n) (fun k => f (k ^^^ 1)) = sm (2 * n) f := by
  rw [sm_two, sm_two]
  refine sm_congr (fun k hk => ?_)
  rw [xor1_even, xor1_odd]
  omega
/-- products of matrices -/
def mm (N : Nat) (A B : Nat → Nat → Int) (i j : Nat) : Int := sm N (fun k => A i k * B k j)
/-- the (m+1)-th power -/
def mp (N : Nat) (A : Nat → Nat → Int) : Nat → Nat → Nat → Int
  | 0 => A
  | m + 1 => mm N (mp N A m) A
theorem mm_assoc (N : Nat) (A B C : Nat → Nat → Int) : mm N (mm N A B) C = mm N A (mm N B C) := by
  funext i j
  show sm N (fun k => sm N (fun l => A i l * B l k) * C k j) = sm N (fun l => A i l * sm N (fun k => B l k * C k j))
  have e1 : ∀ k, sm N (fun l => A i l * B l k) * C k j = sm N (fun l => A i l * B l k * C k j) := fun k => (sm_mulr N _ _).symm
  have e2 : ∀ l, A i l * sm N (fun k => B l k * C k j) = sm N (fun k => A i l * B l k * C k j) := fun l => by
    rw [← sm_mul]
    exact sm_congr (fun k _ => by rw [Int.mul_assoc])
  rw [sm_congr (fun k _ => e1 k), sm_congr (fun l _ => e2 l), sm_swap]
theorem mp_comm (N : Nat) (A : Nat → Nat → Int) (m : Nat) : mm N A (mp N A m) = mp N A (m + 1) := by
  induction m with
  | zero => rfl
  | succ m ih =>
    show mm N A (mm N (mp N A m) A) = mm N (mp N A (m + 1)) A
    rw [← mm_assoc, ih]
/-- which edge may follow which, as a number; with the sign before it, and with the sign after it -/
noncomputable def bb (x y : Nat → Nat) (e f : Nat) : Int := @ite _ (nxt x y e f) (Classical.propDecidable _) 1 0
noncomputable def MM (x y : Nat → Nat) (s : Nat → Int) (e f : Nat) : Int := bb x y e f * s (e / 2)
noncomputable def TT (x y : Nat → Nat) (s : Nat → Int) (e f : Nat) : Int := s (f / 2) * bb x y e f
theorem tl_xor (x y : Nat → Nat) (e : Nat) : tl x y (e ^^^ 1) = hd x y e := by
  unfold tl hd
  rw [xor1]
  by_cases h : e % 2 = 0
  · rw [if_pos h, if_pos h, if_neg (by omega), show (e + 1) / 2 = e / 2 by omega]
  · rw [if_neg h, if_neg h, if_pos (by omega), show (e - 1) / 2 = e / 2 by omega]
theorem hd_xor (x y : Nat → Nat) (e : Nat) : hd x y (e ^^^ 1) = tl x y e := by
  rw [← tl_xor, xor11]
theorem nxt_xor (x y : Nat → Nat) (e f : Nat) : nxt x y (f ^^^ 1) (e ^^^ 1) ↔ nxt x y e f := by
  unfold nxt
  rw [hd_xor, tl_xor]
  rw [xor11]
  constructor
  · rintro ⟨h1, h2⟩
    exact ⟨h1.symm, fun h => h2 h.symm⟩
  · rintro ⟨h1, h2⟩
    exact ⟨h1.symm, fun h => h2 h.symm⟩
theorem bb_xor (x y : Nat → Nat) (e f : Nat) : bb x y (f ^^^ 1) (e ^^^ 1) = bb x y e f := by
  unfold bb
  by_cases h : nxt x y e f
  · rw [if_pos h, if_pos ((nxt_xor x y e f).mpr h)]
  · rw [if_neg h, if_neg (fun k => h ((nxt_xor x y e f).mp k))]
theorem half_xor (e : Nat) : (e ^^^ 1) / 2 = e / 2 := by
  rw [xor1]
  split <;> omega
theorem bb_sub (x y : Nat → Nat) (e f : Nat) : bb x y e f = (if hd x y e = tl x y f then 1 else 0) - (if e = f ^^^ 1 then 1 else 0) := by
  unfold bb nxt
  by_cases h : e = f ^^^ 1
  · subst h
    rw [hd_xor, xor11, if_pos rfl, if_pos rfl, if_neg (fun h => h.2 rfl)]; rfl
  · rw [if_neg h]
    have h' : ¬ f = e ^^^ 1 := fun k => h (by rw [k, xor11])
    by_cases k : hd x y e = tl x y f
    · rw [if_pos k, if_pos ⟨k, h'⟩]; rfl
    · rw [if_neg k, if_neg (fun q => k q.1)]; rfl
theorem mp_conj (x y : Nat → Nat) (s : Nat → Int) (N m e f : Nat) : mp N (MM x y s) m e f * s (f / 2) = s (e / 2) * mp N (TT x y s) m e f := by
  induction m generalizing f with
  | zero => show bb x y e f * s (e / 2) * s (f / 2) = s (e / 2) * (s (f / 2) * bb x y e f); grind
  | succ m ih =>
    show sm N (fun k => mp N (MM x y s) m e k * MM x y s k f) * s (f / 2) = s (e / 2) * sm N (fun k => mp N (TT x y s) m e k * TT x y s k f)
    rw [← sm_mulr, ← sm_mul]
    refine sm_congr (fun k _ => ?_)
    have h := ih k
    show mp N (MM x y s) m e k * (bb x y k f * s (k / 2)) * s (f / 2) = s (e / 2) * (mp N (TT x y s) m e k * (s (f / 2) * bb x y k f))
    grind
theorem mp_xor (x y : Nat → Nat) (s : Nat → Int) (n m e f : Nat) : mp (2 * n) (TT x y s) m e f = mp (2 * n) (MM x y s) m (f ^^^ 1) (e ^^^ 1) := by
  induction m generalizing f with
  | zero =>
    show s (f / 2) * bb x y e f = bb x y (f ^^^ 1) (e ^^^ 1) * s ((f ^^^ 1) / 2)
    rw [bb_xor, half_xor, Int.mul_comm]
  | succ m ih =>
    rw [← mp_comm (2 * n) (MM x y s) m]
    show sm (2 * n) (fun k => mp (2 * n) (TT x y s) m e k * TT x y s k f) = sm (2 * n) (fun k => MM x y s (f ^^^ 1) k * mp (2 * n) (MM x y s) m k (e ^^^ 1))
    rw [← sm_xor n (fun k => MM x y s (f ^^^ 1) k * mp (2 * n) (MM x y s) m k (e ^^^ 1))]
    refine sm_congr (fun k _ => ?_)
    rw [ih k, Int.mul_comm]
    show s (f / 2) * bb x y k f * _ = bb x y (f ^^^ 1) (k ^^^ 1) * s ((f ^^^ 1) / 2) * _
    rw [bb_xor, half_xor, Int.mul_comm (s (f / 2))]
/-- the traces of the powers are what the class counts -/
theorem tr_eq (x y : Nat → Nat) (s : Nat → Int) (n m : Nat) (hs : ∀ k, k < n → s k = 1 ∨ s k = -1) : sm (2 * n) (fun e => mp (2 * n) (MM x y s) m e e) = sm n (fun k => 2 * mp (2 * n) (TT x y s) m (2 * k) (2 * k)) := by
  rw [sm_two]
  refine sm_congr (fun k hk => ?_)
  have h1 := mp_conj x y s (2 * n) m (2 * k) (2 * k)
  have h2 := mp_xor x y s n m (2 * k) (2 * k)
  rw [xor1_even] at h2
  rw [show 2 * k / 2 = k by omega] at h1
  rcases hs k hk with h | h <;> rw [h] at h1 <;> omega
