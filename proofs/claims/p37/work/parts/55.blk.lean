def sR {R : Type} [Lean.Grind.CommRing R] : Nat → (Nat → R) → R
  | 0, _ => 0
  | n + 1, f => sR n f + f n
theorem sR_s {R : Type} [Lean.Grind.CommRing R] (n : Nat) (f : Nat → R) : sR (n + 1) f = sR n f + f n := rfl
theorem sR_congr {R : Type} [Lean.Grind.CommRing R] {n : Nat} {f g : Nat → R} (h : ∀ i, i < n → f i = g i) : sR n f = sR n g := by
  induction n with
  | zero => rfl
  | succ n ih => rw [sR_s, sR_s, ih (fun i hi => h i (by omega)), h n (by omega)]
theorem sR_add {R : Type} [Lean.Grind.CommRing R] (n : Nat) (f g : Nat → R) : sR n (fun i => f i + g i) = sR n f + sR n g := by
  induction n with
  | zero => show (0 : R) = 0 + 0; grind
  | succ n ih => rw [sR_s, sR_s, sR_s, ih]; grind
theorem sR_sub {R : Type} [Lean.Grind.CommRing R] (n : Nat) (f g : Nat → R) : sR n (fun i => f i - g i) = sR n f - sR n g := by
  induction n with
  | zero => show (0 : R) = 0 - 0; grind
  | succ n ih => rw [sR_s, sR_s, sR_s, ih]; grind
theorem sR_mul {R : Type} [Lean.Grind.CommRing R] (n : Nat) (c : R) (f : Nat → R) : sR n (fun i => c * f i) = c * sR n f := by
  induction n with
  | zero => show (0 : R) = c * 0; grind
  | succ n ih => rw [sR_s, sR_s, ih]; grind
theorem sR_zero {R : Type} [Lean.Grind.CommRing R] {n : Nat} {f : Nat → R} (h : ∀ i, i < n → f i = 0) : sR n f = 0 := by
  induction n with
  | zero => rfl
  | succ n ih => rw [sR_s, ih (fun i hi => h i (by omega)), h n (by omega)]; grind
theorem sR_swap {R : Type} [Lean.Grind.CommRing R] (n m : Nat) (f : Nat → Nat → R) : sR n (fun i => sR m (fun j => f i j)) = sR m (fun j => sR n (fun i => f i j)) := by
  induction n with
  | zero => exact (sR_zero (fun _ _ => rfl)).symm
  | succ n ih =>
    rw [sR_s, ih, ← sR_add]
    rfl
theorem sR_one {R : Type} [Lean.Grind.CommRing R] {n : Nat} {f : Nat → R} {k : Nat} (hk : k < n) (h : ∀ i, i < n → i ≠ k → f i = 0) : sR n f = f k := by
  induction n with
  | zero => exact absurd hk (Nat.not_lt_zero k)
  | succ n ih =>
    rw [sR_s]
    by_cases e : k = n
    · subst e
      rw [sR_zero (fun i hi => h i (by omega) (by omega))]; grind
    · rw [ih (by omega) (fun i hi => h i (by omega)), h n (by omega) (by omega)]; grind
def dl {R : Type} [Lean.Grind.CommRing R] (i j : Nat) : R := if i = j then 1 else 0
theorem sR_dl {R : Type} [Lean.Grind.CommRing R] {n i : Nat} (hi : i < n) (b : Nat → R) : sR n (fun k => dl i k * b k) = b i := by
  rw [sR_one hi (fun k _ hk => by unfold dl; rw [if_neg (fun h => hk h.symm)]; grind)]
  unfold dl
  rw [if_pos rfl]; grind
/-- nothing but zero is its own image -/
def Uq {R : Type} [Lean.Grind.CommRing R] (u : R) (A : Nat → Nat → R) (n : Nat) : Prop := ∀ X : Nat → R, (∀ i, i < n → X i = u * sR n (fun k => A i k * X k)) → ∀ i, i < n → X i = 0
theorem slv {R : Type} [Lean.Grind.CommRing R] {u : R} {A g : Nat → Nat → R} {n : Nat} (hU : Uq u A n) (hg : ∀ i j, i < n → j < n → g i j = dl i j + u * sR n (fun k => A i k * g k j)) {x b : Nat → R} (hx : ∀ i, i < n → x i = b i + u * sR n (fun k => A i k * x k)) : ∀ i, i < n → x i = sR n (fun k => g i k * b k) := by
  have hw : ∀ i, i < n → sR n (fun k => g i k * b k) = b i + u * sR n (fun k => A i k * sR n (fun l => g k l * b l)) := by
    intro i hi
    rw [sR_congr (g := fun k => dl i k * b k + u * sR n (fun l => A i l * (g l k * b k))) (fun k hk => by
      rw [hg i k hi hk, sR_congr (f := fun l => A i l * (g l k * b k)) (g := fun l => b k * (A i l * g l k)) (fun l _ => by grind), sR_mul]
      grind), sR_add, sR_dl hi, sR_mul, sR_swap]
    rw [sR_congr (f := fun l => sR n (fun k => A i l * (g l k * b k))) (g := fun l => A i l * sR n (fun k => g l k * b k)) (fun l _ => sR_mul _ _ _)]
  intro i hi
  have h0 := hU (fun i => x i - sR n (fun k => g i k * b k)) (fun i hi => by
    show x i - sR n (fun k => g i k * b k) = _
    rw [sR_congr (f := fun k => A i k * (x k - sR n (fun l => g k l * b l))) (g := fun k => A i k * x k - A i k * sR n (fun l => g k l * b l)) (fun k _ => by grind), sR_sub]
    have h1 := hx i hi
    have h2 := hw i hi
    grind) i hi
  have h0 : x i - sR n (fun k => g i k * b k) = 0 := h0
  grind
/-- the last column, the last row, the corner and the rest of the geometric series of a matrix with one row more -/
theorem gBlk {R : Type} [Lean.Grind.CommRing R] {u : R} {A g G : Nat → Nat → R} {n : Nat} (hU : Uq u A n) (hV : Uq u (fun i k => A k i) n) (hg : ∀ i j, i < n → j < n → g i j = dl i j + u * sR n (fun k => A i k * g k j)) (hg' : ∀ i j, i < n → j < n → g i j = dl i j + u * sR n (fun k => g i k * A k j)) (hG : ∀ i j, i < n + 1 → j < n + 1 → G i j = dl i j + u * sR (n + 1) (fun k => A i k * G k j)) (hG' : ∀ i j, i < n + 1 → j < n + 1 → G i j = dl i j + u * sR (n + 1) (fun k => G i k * A k j)) :
    (∀ i, i < n → G i n = u * G n n * sR n (fun k => g i k * A k n)) ∧
    (∀ j, j < n → G n j = u * G n n * sR n (fun k => A n k * g k j)) ∧
    (G n n * (1 - A n n * u - u * u * sR n (fun l => A n l * sR n (fun k => g l k * A k n))) = 1) ∧
    (∀ i j, i < n → j < n → G i j = g i j + u * u * G n n * (sR n (fun k => g i k * A k n) * sR n (fun k => A n k * g k j))) := by
  have h1 : ∀ i, i < n → G i n = u * G n n * sR n (fun k => g i k * A k n) := by
    intro i hi
    rw [slv hU hg (x := fun i => G i n) (b := fun k => u * G n n * A k n) (fun i hi => by
      show G i n = _
      have h := hG i n (by omega) (by omega)
      rw [sR_s] at h
      unfold dl at h
      rw [if_neg (show ¬ i = n by omega)] at h
      grind) i hi, ← sR_mul]
    exact sR_congr (fun k _ => by grind)
  have h2 : ∀ j, j < n → G n j = u * G n n * sR n (fun k => A n k * g k j) := by
    intro j hj
    rw [slv (g := fun i j => g j i) hV (fun i j hi hj => by
      show g j i = _
      rw [hg' j i hj hi, sR_congr (f := fun k => A k i * g j k) (g := fun k => g j k * A k i) (fun k _ => by grind)]
      unfold dl
      by_cases e : i = j
      · rw [if_pos e, if_pos e.symm]
      · rw [if_neg e, if_neg (fun h => e h.symm)]) (x := fun j => G n j) (b := fun k => u * G n n * A n k) (fun i hi => by
      show G n i = _
      have h := hG' n i (by omega) (by omega)
      rw [sR_s] at h
      unfold dl at h
      rw [if_neg (show ¬ n = i by omega)] at h
      rw [sR_congr (f := fun k => A k i * G n k) (g := fun k => G n k * A k i) (fun k _ => by grind)]
      grind) j hj, ← sR_mul]
    exact sR_congr (fun k _ => by grind)
  refine ⟨h1, h2, ?_, fun i j hi hj => ?_⟩
  · have h := hG n n (by omega) (by omega)
    rw [sR_s, sR_congr (f := fun k => A n k * G k n) (g := fun k => u * G n n * (A n k * sR n (fun l => g k l * A l n))) (fun k hk => by rw [h1 k hk]; grind), sR_mul] at h
    unfold dl at h
    rw [if_pos rfl] at h
    grind
  · rw [slv hU hg (x := fun i => G i j) (b := fun k => dl k j + u * G n j * A k n) (fun i hi => by
      show G i j = _
      have h := hG i j (by omega) (by omega)
      rw [sR_s] at h
      grind) i hi]
    rw [sR_congr (f := fun k => g i k * (dl k j + u * G n j * A k n)) (g := fun k => dl j k * g i k + u * G n j * (g i k * A k n)) (fun k _ => by
      unfold dl
      by_cases e : k = j
      · rw [if_pos e, if_pos e.symm]; grind
      · rw [if_neg e, if_neg (fun h => e h.symm)]; grind), sR_add, sR_dl hj, sR_mul, h2 j hj]
    grind
/-- Newton's rule, one row more -/
theorem nwt {R : Type} [Lean.Grind.CommRing R] {u S Q Q2 c Dc DS T T' Gn : R} (a : R) (hS : S = 1 - a * u - u * u * Q) (hG : Gn * S = 1) (hDS : DS = S - 1 - u * u * Q2) (hD : Dc = - T * c) (hT : T' = T + u * u * Gn * Q2 + Gn - 1) : Dc * S + c * DS = - T' * (c * S) := by
  subst hS hDS hD hT
  grind
