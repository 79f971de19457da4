/-- power series with whole coefficients -/
abbrev PS : Type := Nat → Int
theorem PS.ext' {a b : PS} (h : ∀ n, a n = b n) : a = b := funext h
theorem sm_first (n : Nat) (f : Nat → Int) : sm (n + 1) f = f 0 + sm n (fun i => f (i + 1)) := by
  induction n with
  | zero => show (0 : Int) + f 0 = f 0 + 0; omega
  | succ n ih =>
    show sm (n + 1) f + f (n + 1) = f 0 + (sm n (fun i => f (i + 1)) + f (n + 1))
    rw [ih]; omega
theorem sm_rev (n : Nat) (f : Nat → Int) : sm (n + 1) (fun i => f (n - i)) = sm (n + 1) f := by
  induction n generalizing f with
  | zero => rfl
  | succ n ih =>
    rw [sm_first]
    show f (n + 1 - 0) + sm (n + 1) (fun i => f (n + 1 - (i + 1))) = sm (n + 1) f + f (n + 1)
    rw [sm_congr (g := fun i => f (n - i)) (fun i hi => by rw [show n + 1 - (i + 1) = n - i by omega]), ih, Nat.sub_zero]
    omega
/-- the product of two rows of coefficients -/
def cv (f g : Nat → Int) (n : Nat) : Int := sm (n + 1) (fun i => f i * g (n - i))
theorem cv_comm (f g : Nat → Int) (n : Nat) : cv f g n = cv g f n := by
  unfold cv
  rw [← sm_rev n (fun i => g i * f (n - i))]
  refine sm_congr (fun i hi => ?_)
  show f i * g (n - i) = g (n - i) * f (n - (n - i))
  rw [show n - (n - i) = i by omega, Int.mul_comm]
/-- a triangle summed by its rows or by its diagonals -/
theorem sm_tri (n : Nat) (F : Nat → Nat → Int) : sm (n + 1) (fun i => sm (i + 1) (fun j => F j (i - j))) = sm (n + 1) (fun j => sm (n - j + 1) (fun k => F j k)) := by
  induction n with
  | zero => rfl
  | succ n ih =>
    show sm (n + 1) (fun i => sm (i + 1) (fun j => F j (i - j))) + sm (n + 1 + 1) (fun j => F j (n + 1 - j)) = sm (n + 1) (fun j => sm (n + 1 - j + 1) (fun k => F j k)) + sm (n + 1 - (n + 1) + 1) (fun k => F (n + 1) k)
    rw [ih]
    show _ + (sm (n + 1) (fun j => F j (n + 1 - j)) + F (n + 1) (n + 1 - (n + 1))) = _
    rw [show n + 1 - (n + 1) = 0 by omega, sm_congr (n := n + 1) (f := fun j => sm (n + 1 - j + 1) (fun k => F j k)) (g := fun j => sm (n - j + 1) (fun k => F j k) + F j (n + 1 - j)) (fun j hj => by
      rw [show n + 1 - j + 1 = (n - j + 1) + 1 by omega, show n + 1 - j = n - j + 1 by omega]; rfl), sm_add]
    show _ = _ + (0 + F (n + 1) 0)
    omega
theorem cv_assoc (f g h : Nat → Int) (n : Nat) : cv (cv f g) h n = cv f (cv g h) n := by
  unfold cv
  have e1 : ∀ i, i < n + 1 → sm (i + 1) (fun j => f j * g (i - j)) * h (n - i) = sm (i + 1) (fun j => (fun j k => f j * g k * h (n - j - k)) j (i - j)) := by
    intro i hi
    rw [← sm_mulr]
    refine sm_congr (fun j hj => ?_)
    show f j * g (i - j) * h (n - i) = f j * g (i - j) * h (n - j - (i - j))
    rw [show n - j - (i - j) = n - i by omega]
  have e2 : ∀ j, j < n + 1 → f j * sm (n - j + 1) (fun k => g k * h (n - j - k)) = sm (n - j + 1) (fun k => (fun j k => f j * g k * h (n - j - k)) j k) := by
    intro j hj
    rw [← sm_mul]
    exact sm_congr (fun k hk => (Int.mul_assoc _ _ _).symm)
  rw [sm_congr e1, sm_congr e2]
  exact sm_tri n (fun j k => f j * g k * h (n - j - k))
/-- a number as a series -/
def pc (z : Int) : PS := fun n => if n = 0 then z else 0
def pp (a : PS) : Nat → PS
  | 0 => pc 1
  | n + 1 => cv (pp a n) a
theorem cv_c (z : Int) (f : Nat → Int) (n : Nat) : cv (pc z) f n = z * f n := by
  unfold cv
  rw [sm_one (k := 0) (by omega) (fun i _ hi => by show (if i = 0 then z else 0) * _ = 0; rw [if_neg hi, Int.zero_mul])]
  rfl
abbrev psR : Lean.Grind.CommRing PS where
  add a b := fun n => a n + b n
  mul a b := cv a b
  neg a := fun n => - a n
  sub a b := fun n => a n - b n
  natCast := ⟨fun n => pc n⟩
  intCast := ⟨fun z => pc z⟩
  ofNat n := ⟨pc n⟩
  nsmul := ⟨fun k a => cv (pc k) a⟩
  zsmul := ⟨fun k a => cv (pc k) a⟩
  npow := ⟨pp⟩
  add_zero a := PS.ext' (fun n => by show a n + (if n = 0 then ((0 : Nat) : Int) else 0) = a n; split <;> simp)
  add_comm a b := PS.ext' (fun n => Int.add_comm _ _)
  add_assoc a b c := PS.ext' (fun n => Int.add_assoc _ _ _)
  mul_assoc a b c := PS.ext' (fun n => cv_assoc _ _ _ n)
  mul_comm a b := PS.ext' (fun n => cv_comm _ _ n)
  mul_one a := PS.ext' (fun n => by show cv a (pc 1) n = _; rw [cv_comm, cv_c, Int.one_mul])
  one_mul a := PS.ext' (fun n => by show cv (pc 1) a n = _; rw [cv_c, Int.one_mul])
  left_distrib a b c := PS.ext' (fun n => by
    show cv a (fun n => b n + c n) n = cv a b n + cv a c n
    unfold cv
    rw [← sm_add]
    exact sm_congr (fun i _ => Int.mul_add _ _ _))
  right_distrib a b c := PS.ext' (fun n => by
    show cv (fun n => a n + b n) c n = cv a c n + cv b c n
    unfold cv
    rw [← sm_add]
    exact sm_congr (fun i _ => Int.add_mul _ _ _))
  zero_mul a := PS.ext' (fun n => by
    show cv (pc 0) a n = pc 0 n
    rw [cv_c, Int.zero_mul]
    show (0 : Int) = if n = 0 then 0 else 0
    split <;> rfl)
  mul_zero a := PS.ext' (fun n => by
    show cv a (pc 0) n = pc 0 n
    rw [cv_comm, cv_c, Int.zero_mul]
    show (0 : Int) = if n = 0 then 0 else 0
    split <;> rfl)
  pow_zero a := rfl
  pow_succ a n := rfl
  ofNat_succ a := PS.ext' (fun n => by
    show (if n = 0 then ((a + 1 : Nat) : Int) else 0) = (if n = 0 then ((a : Nat) : Int) else 0) + (if n = 0 then ((1 : Nat) : Int) else 0)
    split <;> simp)
  neg_add_cancel a := PS.ext' (fun n => by
    show - a n + a n = if n = 0 then ((0 : Nat) : Int) else 0
    split <;> omega)
  sub_eq_add_neg a b := PS.ext' (fun n => Int.sub_eq_add_neg)
  neg_zsmul i a := PS.ext' (fun n => by
    show cv (pc (-i)) a n = - cv (pc i) a n
    rw [cv_c, cv_c, Int.neg_mul])
  intCast_neg i := PS.ext' (fun n => by
    show (if n = 0 then -i else 0) = - (if n = 0 then i else 0)
    split <;> omega)
theorem ps_try (a b : PS) : letI := psR; (a + b) * (a - b) = a * a - b * b := by
  letI := psR
  show (a + b) * (a - b) = a * a - b * b
  grind
theorem ps_try2 {R : Type} [Lean.Grind.CommRing R] (a b c : R) (h : a * b = 1) : a * a * c * b = a * c := by grind
