/-- no coefficient beyond d, and none greater than K -/
def Bd (a : PS) (d K : Nat) : Prop := ∀ c, (d < c → a c = 0) ∧ -(K : Int) ≤ a c ∧ a c ≤ K
def fc : Nat → Nat
  | 0 => 1
  | n + 1 => (n + 1) * fc n
theorem sm_bd {n K : Nat} {f : Nat → Int} (h : ∀ i, i < n → -(K : Int) ≤ f i ∧ f i ≤ K) : -((n * K : Nat) : Int) ≤ sm n f ∧ sm n f ≤ ((n * K : Nat) : Int) := by
  induction n with
  | zero => show -((0 * K : Nat) : Int) ≤ 0 ∧ (0 : Int) ≤ ((0 * K : Nat) : Int); rw [Nat.zero_mul]; omega
  | succ n ih =>
    have h1 := ih (fun i hi => h i (by omega))
    have h2 := h n (by omega)
    show -(((n + 1) * K : Nat) : Int) ≤ sm n f + f n ∧ sm n f + f n ≤ (((n + 1) * K : Nat) : Int)
    rw [Nat.add_mul, Nat.one_mul]
    omega
theorem mul_sm1 {z y : Int} {K : Nat} (hz : -1 ≤ z ∧ z ≤ 1) (hy : -(K : Int) ≤ y ∧ y ≤ K) : -(K : Int) ≤ z * y ∧ z * y ≤ K := by
  have h : z = -1 ∨ z = 0 ∨ z = 1 := by omega
  rcases h with rfl | rfl | rfl
  · rw [Int.neg_mul, Int.one_mul]; omega
  · rw [Int.zero_mul]; omega
  · rw [Int.one_mul]; omega
/-- entries of size at most one, and nothing on the diagonal -/
def Sml (A : Nat → Nat → Int) : Prop := (∀ i j, -1 ≤ A i j ∧ A i j ≤ 1) ∧ ∀ i, A i i = 0
theorem Sml_pm {A : Nat → Nat → Int} (h : Sml A) (a b : Nat) : Sml (pm a b A) := ⟨fun _ _ => h.1 _ _, fun _ => h.2 _⟩
theorem cc_s (A : Nat → Nat → Int) (n : Nat) (hA : Sml A) : letI := psR; cc A (n + 1) = cc A n - pu * (pu * sR n (fun l => lft A n l * sR n (fun k => lft A k n * (cc A n * gz n A l k)))) := by
  letI := psR
  have e1 : cc A (n + 1) = cc A n * Ss A n := rfl
  have e2 : Ss A n = 1 - lft A n n * pu - pu * pu * Qs A n := rfl
  have e3 : lft A n n = (0 : PS) := by show pc (A n n) = _; rw [hA.2]; rfl
  have e4 : Qs A n = sR n (fun l => lft A n l * sR n (fun k => gz n A l k * lft A k n)) := rfl
  have e5 : cc A n * Qs A n = sR n (fun l => lft A n l * sR n (fun k => lft A k n * (cc A n * gz n A l k))) := by
    rw [e4, ← sR_mul]
    refine sR_congr (fun l _ => ?_)
    have : cc A n * sR n (fun k => gz n A l k * lft A k n) = sR n (fun k => lft A k n * (cc A n * gz n A l k)) := by
      rw [← sR_mul]
      exact sR_congr (fun k _ => by grind)
    grind
  rw [← e5, e1, e2, e3]
  grind
theorem deg_bd (n : Nat) : ∀ A : Nat → Nat → Int, Sml A → Bd (cc A n) n (fc n) ∧ (∀ i j, i < n → j < n → Bd (cv (cc A n) (gz n A i j)) (n - 1) (fc (n - 1))) := by
  letI := psR
  induction n with
  | zero =>
    intro A hA
    refine ⟨fun c => ⟨fun h => ?_, ?_⟩, fun i j hi => absurd hi (Nat.not_lt_zero i)⟩
    · show (if c = 0 then (1 : Int) else 0) = 0
      rw [if_neg (by omega)]
    · show -((1 : Nat) : Int) ≤ (if c = 0 then (1 : Int) else 0) ∧ (if c = 0 then (1 : Int) else 0) ≤ ((1 : Nat) : Int)
      split <;> omega
  | succ n ih =>
    have hN : ∀ A, Sml A → Bd (cc A (n + 1)) (n + 1) (fc (n + 1)) := by
      intro A hA
      obtain ⟨h1, h2⟩ := ih A hA
      intro c
      have e1 : cc A (n + 1) c = cc A n c - cv pu (cv pu (sR n (fun l => lft A n l * sR n (fun k => lft A k n * (cc A n * gz n A l k))))) c := by rw [cc_s A n hA]; rfl
      rw [e1, cv_u]
      have hc := h1 c
      have hk : (fc n : Int) ≤ fc (n + 1) := by
        show (fc n : Int) ≤ (((n + 1) * fc n : Nat) : Int)
        rw [Nat.add_mul, Nat.one_mul]; omega
      by_cases c0 : c = 0
      · rw [if_pos c0]
        exact ⟨fun h => by omega, by omega, by omega⟩
      rw [if_neg c0, cv_u]
      by_cases c1 : c - 1 = 0
      · rw [if_pos c1]
        exact ⟨fun h => by omega, by omega, by omega⟩
      rw [if_neg c1, sR_co]
      have hin : ∀ l, l < n → (n - 1 < c - 1 - 1 → (lft A n l * sR n (fun k => lft A k n * (cc A n * gz n A l k))) (c - 1 - 1) = 0) ∧ -((n * fc (n - 1) : Nat) : Int) ≤ (lft A n l * sR n (fun k => lft A k n * (cc A n * gz n A l k))) (c - 1 - 1) ∧ (lft A n l * sR n (fun k => lft A k n * (cc A n * gz n A l k))) (c - 1 - 1) ≤ ((n * fc (n - 1) : Nat) : Int) := by
        intro l hl
        show (n - 1 < c - 1 - 1 → cv (pc (A n l)) (sR n (fun k => lft A k n * (cc A n * gz n A l k))) (c - 1 - 1) = 0) ∧ -((n * fc (n - 1) : Nat) : Int) ≤ cv (pc (A n l)) (sR n (fun k => lft A k n * (cc A n * gz n A l k))) (c - 1 - 1) ∧ cv (pc (A n l)) (sR n (fun k => lft A k n * (cc A n * gz n A l k))) (c - 1 - 1) ≤ ((n * fc (n - 1) : Nat) : Int)
        rw [cv_c, sR_co]
        have hin2 : ∀ k, k < n → (n - 1 < c - 1 - 1 → (lft A k n * (cc A n * gz n A l k)) (c - 1 - 1) = 0) ∧ -(fc (n - 1) : Int) ≤ (lft A k n * (cc A n * gz n A l k)) (c - 1 - 1) ∧ (lft A k n * (cc A n * gz n A l k)) (c - 1 - 1) ≤ (fc (n - 1) : Int) := by
          intro k hk'
          show (n - 1 < c - 1 - 1 → cv (pc (A k n)) (cv (cc A n) (gz n A l k)) (c - 1 - 1) = 0) ∧ -(fc (n - 1) : Int) ≤ cv (pc (A k n)) (cv (cc A n) (gz n A l k)) (c - 1 - 1) ∧ cv (pc (A k n)) (cv (cc A n) (gz n A l k)) (c - 1 - 1) ≤ (fc (n - 1) : Int)
          rw [cv_c]
          obtain ⟨b1, b2⟩ := h2 l k hl hk' (c - 1 - 1)
          exact ⟨fun h => by rw [b1 h, Int.mul_zero], mul_sm1 (hA.1 k n) b2⟩
        refine ⟨fun h => ?_, mul_sm1 (hA.1 n l) (sm_bd (fun k hk' => (hin2 k hk').2))⟩
        rw [sm_zero (fun k hk' => (hin2 k hk').1 h), Int.mul_zero]
      have hb := sm_bd (fun l hl => (hin l hl).2)
      have hf : n * (n * fc (n - 1)) = n * fc n := by
        cases n with
        | zero => rw [Nat.zero_mul, Nat.zero_mul]
        | succ m => rfl
      rw [hf] at hb
      have hk2 : ((fc (n + 1) : Nat) : Int) = ((n * fc n : Nat) : Int) + (fc n : Int) := by
        show (((n + 1) * fc n : Nat) : Int) = _
        rw [Nat.add_mul, Nat.one_mul]; omega
      refine ⟨fun h => ?_, by omega, by omega⟩
      rw [sm_zero (fun l hl => (hin l hl).1 (by omega)), hc.1 (by omega)]; rfl
    intro A hA
    refine ⟨hN A hA, fun i j hi hj => ?_⟩
    show Bd (cv (cc A (n + 1)) (gz (n + 1) A i j)) n (fc n)
    have hA' := Sml_pm hA j n
    obtain ⟨h1, h2⟩ := ih (pm j n A) hA'
    have e1 : cc A (n + 1) = cc (pm j n A) (n + 1) := (cc_pm hj (by omega) A).symm
    have e2 : gz (n + 1) A i j = gz (n + 1) (pm j n A) (sw j n i) n := by
      rw [gz_pm hj (by omega), sw_sw]
      congr 1
      unfold sw
      by_cases h : n = j
      · rw [if_pos h, h]
      · rw [if_neg h, if_pos rfl]
    obtain ⟨g1, -, g3, -⟩ := gG (pm j n A) n
    have hi' : sw j n i < n + 1 := sw_lt hj (by omega) hi
    rw [e1, e2]
    have e3 : cc (pm j n A) (n + 1) = cc (pm j n A) n * Ss (pm j n A) n := rfl
    by_cases hin : sw j n i = n
    · have e4 : cv (cc (pm j n A) (n + 1)) (gz (n + 1) (pm j n A) (sw j n i) n) = cc (pm j n A) n := by
        show cc (pm j n A) (n + 1) * gz (n + 1) (pm j n A) (sw j n i) n = _
        rw [hin, e3]
        grind
      rw [e4]
      exact h1
    · have e4 : cv (cc (pm j n A) (n + 1)) (gz (n + 1) (pm j n A) (sw j n i) n) = pu * sR n (fun k => lft (pm j n A) k n * (cc (pm j n A) n * gz n (pm j n A) (sw j n i) k)) := by
        show cc (pm j n A) (n + 1) * gz (n + 1) (pm j n A) (sw j n i) n = _
        rw [g1 (sw j n i) (by omega), e3]
        have e5 : sR n (fun k => lft (pm j n A) k n * (cc (pm j n A) n * gz n (pm j n A) (sw j n i) k)) = cc (pm j n A) n * sR n (fun k => gz n (pm j n A) (sw j n i) k * lft (pm j n A) k n) := by
          rw [← sR_mul]
          exact sR_congr (fun k _ => by grind)
        rw [e5]
        grind
      rw [e4]
      intro c
      show (n < c → cv pu (sR n (fun k => lft (pm j n A) k n * (cc (pm j n A) n * gz n (pm j n A) (sw j n i) k))) c = 0) ∧ -(fc n : Int) ≤ cv pu (sR n (fun k => lft (pm j n A) k n * (cc (pm j n A) n * gz n (pm j n A) (sw j n i) k))) c ∧ cv pu (sR n (fun k => lft (pm j n A) k n * (cc (pm j n A) n * gz n (pm j n A) (sw j n i) k))) c ≤ (fc n : Int)
      rw [cv_u]
      by_cases c0 : c = 0
      · rw [if_pos c0]; exact ⟨fun _ => rfl, by omega, by omega⟩
      rw [if_neg c0, sR_co]
      have hin2 : ∀ k, k < n → (n - 1 < c - 1 → (lft (pm j n A) k n * (cc (pm j n A) n * gz n (pm j n A) (sw j n i) k)) (c - 1) = 0) ∧ -(fc (n - 1) : Int) ≤ (lft (pm j n A) k n * (cc (pm j n A) n * gz n (pm j n A) (sw j n i) k)) (c - 1) ∧ (lft (pm j n A) k n * (cc (pm j n A) n * gz n (pm j n A) (sw j n i) k)) (c - 1) ≤ (fc (n - 1) : Int) := by
        intro k hk'
        show (n - 1 < c - 1 → cv (pc (pm j n A k n)) (cv (cc (pm j n A) n) (gz n (pm j n A) (sw j n i) k)) (c - 1) = 0) ∧ -(fc (n - 1) : Int) ≤ cv (pc (pm j n A k n)) (cv (cc (pm j n A) n) (gz n (pm j n A) (sw j n i) k)) (c - 1) ∧ cv (pc (pm j n A k n)) (cv (cc (pm j n A) n) (gz n (pm j n A) (sw j n i) k)) (c - 1) ≤ (fc (n - 1) : Int)
        rw [cv_c]
        obtain ⟨b1, b2⟩ := h2 (sw j n i) k (by omega) hk' (c - 1)
        exact ⟨fun h => by rw [b1 h, Int.mul_zero], mul_sm1 (hA'.1 k n) b2⟩
      have hb := sm_bd (fun k hk' => (hin2 k hk').2)
      have hf : n * fc (n - 1) = fc n := by
        cases n with
        | zero => omega
        | succ m => rfl
      rw [hf] at hb
      exact ⟨fun h => sm_zero (fun k hk' => (hin2 k hk').1 (by omega)), hb⟩
