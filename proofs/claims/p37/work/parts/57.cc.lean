def Qs (A : Nat → Nat → Int) (n : Nat) : PS := @sR PS psR n (fun l => cv (lft A n l) (@sR PS psR n (fun k => cv (gz n A l k) (lft A k n))))
def Q2 (A : Nat → Nat → Int) (n : Nat) : PS := @sR PS psR n (fun i => cv (@sR PS psR n (fun k => cv (gz n A i k) (lft A k n))) (@sR PS psR n (fun k => cv (lft A n k) (gz n A k i))))
def Ss (A : Nat → Nat → Int) (n : Nat) : PS := letI := psR; 1 - lft A n n * pu - pu * pu * Qs A n
/-- the reciprocal polynomial, border by border -/
def cc (A : Nat → Nat → Int) : Nat → PS
  | 0 => pc 1
  | n + 1 => cv (cc A n) (Ss A n)
def Tz (A : Nat → Nat → Int) (n : Nat) : PS := letI := psR; sR n (fun i => gz n A i i) - pc n
theorem gG (A : Nat → Nat → Int) (n : Nat) : letI := psR;
    (∀ i, i < n → gz (n + 1) A i n = pu * gz (n + 1) A n n * sR n (fun k => gz n A i k * lft A k n)) ∧
    (∀ j, j < n → gz (n + 1) A n j = pu * gz (n + 1) A n n * sR n (fun k => lft A n k * gz n A k j)) ∧
    (gz (n + 1) A n n * Ss A n = 1) ∧
    (∀ i j, i < n → j < n → gz (n + 1) A i j = gz n A i j + pu * pu * gz (n + 1) A n n * (sR n (fun k => gz n A i k * lft A k n) * sR n (fun k => lft A n k * gz n A k j))) :=
  @gBlk PS psR pu (lft A) (gz n A) (gz (n + 1) A) n (ps_Uq n A) (ps_Uq n (fun i k => A k i)) (gz_hg A) (gz_hg' A) (gz_hg A) (gz_hg' A)
theorem ps_cast (n : Nat) : letI := psR; pc ((n + 1 : Nat) : Int) = pc n + 1 := by
  letI := psR
  refine PS.ext' (fun c => ?_)
  show (if c = 0 then ((n + 1 : Nat) : Int) else 0) = (if c = 0 then (n : Int) else 0) + (if c = 0 then ((1 : Nat) : Int) else 0)
  split <;> omega
theorem hTz (A : Nat → Nat → Int) (n : Nat) : letI := psR; Tz A (n + 1) = Tz A n + pu * pu * gz (n + 1) A n n * Q2 A n + gz (n + 1) A n n - 1 := by
  letI := psR
  obtain ⟨-, -, -, h⟩ := gG A n
  have e1 : sR (n + 1) (fun i => gz (n + 1) A i i) = sR n (fun i => gz n A i i) + pu * pu * gz (n + 1) A n n * Q2 A n + gz (n + 1) A n n := by
    rw [sR_s, sR_congr (fun i hi => h i i hi hi), sR_add, sR_mul]
    rfl
  have e2 := ps_cast n
  have e3 : Tz A (n + 1) = sR (n + 1) (fun i => gz (n + 1) A i i) - pc ((n + 1 : Nat) : Int) := rfl
  have e4 : Tz A n = sR n (fun i => gz n A i i) - pc n := rfl
  rw [e3, e4, e1, e2]
  grind
theorem hDQ (A : Nat → Nat → Int) (n : Nat) : letI := psR; pD (Qs A n) = Q2 A n - Qs A n := by
  letI := psR
  have e0 : ∀ l k, pD (lft A l k) = 0 := fun l k => pD_c _
  have e1 : ∀ l, l < n → pD (sR n (fun k => gz n A l k * lft A k n)) = sR n (fun i => gz n A l i * sR n (fun k => gz n A i k * lft A k n)) - sR n (fun k => gz n A l k * lft A k n) := by
    intro l hl
    rw [pD_sR]
    have s1 : ∀ k, k < n → pD (gz n A l k * lft A k n) = sR n (fun i => gz n A l i * (gz n A i k * lft A k n)) - gz n A l k * lft A k n := by
      intro k hk
      have h1 := pD_mul (gz n A l k) (lft A k n)
      have h2 := gz_D A hl hk
      have h3 : sR n (fun i => gz n A l i * (gz n A i k * lft A k n)) = lft A k n * sR n (fun i => gz n A l i * gz n A i k) := by
        rw [← sR_mul]
        exact sR_congr (fun i _ => by grind)
      have h4 := e0 k n
      grind
    rw [sR_congr s1, sR_sub, sR_swap]
    rw [sR_congr (f := fun i => sR n (fun k => gz n A l i * (gz n A i k * lft A k n))) (g := fun i => gz n A l i * sR n (fun k => gz n A i k * lft A k n)) (fun i _ => sR_mul _ _ _)]
  have e2 : Qs A n = sR n (fun l => lft A n l * sR n (fun k => gz n A l k * lft A k n)) := rfl
  have e3 : Q2 A n = sR n (fun i => sR n (fun k => gz n A i k * lft A k n) * sR n (fun k => lft A n k * gz n A k i)) := rfl
  have e4 : sR n (fun l => lft A n l * sR n (fun i => gz n A l i * sR n (fun k => gz n A i k * lft A k n))) = Q2 A n := by
    rw [e3, sR_congr (f := fun i => sR n (fun k => gz n A i k * lft A k n) * sR n (fun k => lft A n k * gz n A k i)) (g := fun i => sR n (fun l => lft A n l * (gz n A l i * sR n (fun k => gz n A i k * lft A k n)))) (fun i _ => by
      rw [← sR_mul]
      exact sR_congr (fun l _ => by grind)), sR_swap]
    exact sR_congr (fun l _ => (sR_mul _ _ _).symm)
  rw [← e4]
  rw [e2, pD_sR, ← sR_sub]
  refine sR_congr (fun l hl => ?_)
  have h1 := pD_mul (lft A n l) (sR n (fun k => gz n A l k * lft A k n))
  have h2 := e1 l hl
  have h3 := e0 n l
  grind
theorem hDS (A : Nat → Nat → Int) (n : Nat) : letI := psR; pD (Ss A n) = Ss A n - 1 - pu * pu * Q2 A n := by
  letI := psR
  have e0 : Ss A n = 1 - lft A n n * pu - pu * pu * Qs A n := rfl
  have h1 := pD_sub (1 - lft A n n * pu) (pu * pu * Qs A n)
  have h2 := pD_sub (1 : PS) (lft A n n * pu)
  have h3 : pD (1 : PS) = 0 := pD_c 1
  have h4 := pD_mul (lft A n n) pu
  have h5 : pD (lft A n n) = 0 := pD_c _
  have h6 := pD_mul (pu * pu) (Qs A n)
  have h7 := pD_mul pu pu
  have h8 := pD_u
  have h9 := hDQ A n
  rw [e0, h1, h2, h3, h4, h5, h6, h7, h8, h9]
  grind
theorem cc_newton (A : Nat → Nat → Int) (n : Nat) : letI := psR; pD (cc A n) = - Tz A n * cc A n := by
  letI := psR
  induction n with
  | zero =>
    have e1 : pD (cc A 0) = 0 := pD_c 1
    have e2 : Tz A 0 = 0 := by
      show (0 : PS) - pc ((0 : Nat) : Int) = 0
      have : pc ((0 : Nat) : Int) = (0 : PS) := rfl
      rw [this]; grind
    rw [e1, e2]; grind
  | succ n ih =>
    have e1 : cc A (n + 1) = cc A n * Ss A n := rfl
    obtain ⟨-, -, h3, -⟩ := gG A n
    have h4 := nwt (u := pu) (S := Ss A n) (Q := Qs A n) (Q2 := Q2 A n) (c := cc A n) (Dc := pD (cc A n)) (DS := pD (Ss A n)) (T := Tz A n) (T' := Tz A (n + 1)) (Gn := gz (n + 1) A n n) (lft A n n) rfl h3 (hDS A n) ih (hTz A n)
    rw [e1, pD_mul]
    exact h4
