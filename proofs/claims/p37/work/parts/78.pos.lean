/-! powers of matrices without negative entries: what traces must at least be -/
def tra (N : Nat) (A : Nat → Nat → Int) : Int := sm N (fun i => A i i)
theorem mm_mp (N : Nat) (A : Nat → Nat → Int) (a b : Nat) : mm N (mp N A a) (mp N A b) = mp N A (a + b + 1) := by
  induction b with
  | zero => rfl
  | succ b ih =>
    show mm N (mp N A a) (mm N (mp N A b) A) = _
    rw [← mm_assoc, ih]; rfl
theorem mp_mp (N : Nat) (A : Nat → Nat → Int) (a b : Nat) : mp N (mp N A a) b = mp N A (a * b + a + b) := by
  induction b with
  | zero => rw [Nat.mul_zero, Nat.zero_add, Nat.add_zero]; rfl
  | succ b ih =>
    show mm N (mp N (mp N A a) b) (mp N A a) = _
    rw [ih, mm_mp]
    congr 1
    rw [Nat.mul_succ]
    omega
section POS
variable {N : Nat} {D : Nat → Nat → Int}
theorem mp_nn (hD : ∀ i j, 0 ≤ D i j) (m : Nat) : ∀ i j, 0 ≤ mp N D m i j := by
  induction m with
  | zero => exact hD
  | succ m ih => exact fun i j => sm_nn (fun k _ => Int.mul_nonneg (ih i k) (hD k j))
theorem mp_step (hD : ∀ i j, 0 ≤ D i j) (m i j : Nat) {k : Nat} (hk : k < N) : mp N D m i k * D k j ≤ mp N D (m + 1) i j :=
  sm_ge1 (f := fun k => mp N D m i k * D k j) (fun k _ => Int.mul_nonneg (mp_nn hD m i k) (hD k j)) hk
theorem le_mulr {u v : Int} (hu : 0 ≤ u) (hv : 1 ≤ v) : u ≤ u * v := by
  have := Int.mul_le_mul_of_nonneg_left hv hu
  omega
theorem mp_diag (hD : ∀ i j, 0 ≤ D i j) (m : Nat) {i : Nat} (hi : i < N) : D i i ≤ mp N D m i i := by
  induction m with
  | zero => exact Int.le_refl _
  | succ m ih =>
    have h1 := mp_step hD m i i hi
    have h2 := mp_nn (N := N) hD (m + 1) i i
    have h3 := mp_nn (N := N) hD m i i
    have h4 := hD i i
    by_cases h : D i i = 0
    · omega
    · have := le_mulr h3 (show 1 ≤ D i i by omega)
      omega
theorem mp_odd (hD : ∀ i j, 0 ≤ D i j) (r : Nat) {i j : Nat} (hi : i < N) (hj : j < N) (h1 : 1 ≤ D i j) (h2 : 1 ≤ D j i) : D i j ≤ mp N D (2 * r) i j := by
  induction r with
  | zero => exact Int.le_refl _
  | succ r ih =>
    have k1 := mp_step hD (2 * r) i i hj
    have k2 := mp_step hD (2 * r + 1) i j hi
    have k3 := le_mulr (mp_nn (N := N) hD (2 * r) i j) h2
    have k4 := le_mulr (mp_nn (N := N) hD (2 * r + 1) i i) h1
    rw [show 2 * (r + 1) = 2 * r + 1 + 1 by omega]
    omega
theorem trQ (hD : ∀ i j, 0 ≤ D i j) (m : Nat) : tra N D ≤ tra N (mp N D m) := sm_le (fun _ hi => mp_diag hD m hi)
theorem sq_mono {X d : Int} (h0 : 0 ≤ d) (h : d ≤ X) : d * d - d ≤ X * X - X := by
  by_cases e : d = X
  · rw [e]; exact Int.le_refl _
  · have h1 : 0 ≤ (X - d) * (X + d - 1) := Int.mul_nonneg (by omega) (by omega)
    have h2 : (X - d) * (X + d - 1) = X * X - X - (d * d - d) := by grind
    omega
theorem cu_mono {X d : Int} (h0 : 0 ≤ d) (h : d ≤ X) : d * d * d - d ≤ X * X * X - X := by
  by_cases e : d = X
  · rw [e]; exact Int.le_refl _
  · have h3 : 1 ≤ X * X := by
      have := Int.mul_le_mul_of_nonneg_left (show 1 ≤ X by omega) (show 0 ≤ X by omega)
      omega
    have h4 : 0 ≤ X * d := Int.mul_nonneg (by omega) h0
    have h5 : 0 ≤ d * d := Int.mul_nonneg h0 h0
    have h1 : 0 ≤ (X - d) * (X * X + X * d + d * d - 1) := Int.mul_nonneg (by omega) (by omega)
    have h2 : (X - d) * (X * X + X * d + d * d - 1) = X * X * X - X - (d * d * d - d) := by grind
    omega
theorem tr_mm (A : Nat → Nat → Int) : tra N (mm N A A) - tra N A = sm N (fun i => sm N (fun j => A i j * A j i - (if j = i then A i i else 0))) := by
  have h : sm N (fun i => sm N (fun j => A i j * A j i - (if j = i then A i i else 0))) = sm N (fun i => mm N A A i i - A i i) := sm_congr (fun i hi => by
    rw [sm_sub, sm_one (f := fun j => if j = i then A i i else 0) hi (fun j _ hj => if_neg hj), if_pos rfl]
    rfl)
  rw [h, sm_sub]
  rfl
theorem trS (hD : ∀ i j, 0 ≤ D i j) (r : Nat) : tra N (mp N D (2 * r)) + tra N (mp N D 1) ≤ tra N (mp N D (4 * r + 1)) + tra N D := by
  have e1 := tr_mm (N := N) (mp N D (2 * r))
  have e2 := tr_mm (N := N) D
  rw [mm_mp, show 2 * r + 2 * r + 1 = 4 * r + 1 by omega] at e1
  have e3 : mm N D D = mp N D 1 := rfl
  rw [e3] at e2
  have h : sm N (fun i => sm N (fun j => D i j * D j i - (if j = i then D i i else 0))) ≤ sm N (fun i => sm N (fun j => mp N D (2 * r) i j * mp N D (2 * r) j i - (if j = i then mp N D (2 * r) i i else 0))) := sm_le (fun i hi => sm_le (fun j hj => by
    have n1 := mp_nn (N := N) hD (2 * r) i j
    have n2 := mp_nn (N := N) hD (2 * r) j i
    have n3 := Int.mul_nonneg n1 n2
    by_cases e : j = i
    · subst e
      rw [if_pos rfl, if_pos rfl]
      exact sq_mono (hD j j) (mp_diag hD (2 * r) hj)
    · rw [if_neg e, if_neg e]
      by_cases c1 : D i j = 0
      · rw [c1, Int.zero_mul]; omega
      · by_cases c2 : D j i = 0
        · rw [c2, Int.mul_zero]; omega
        · have d1 := hD i j
          have d2 := hD j i
          have k1 := mp_odd hD r hi hj (by omega) (by omega)
          have k2 := mp_odd hD r hj hi (by omega) (by omega)
          have := Int.mul_le_mul k1 k2 d2 n1
          omega))
  omega
theorem tr_mmm (A : Nat → Nat → Int) : tra N (mm N (mm N A A) A) - tra N A = sm N (fun i => sm N (fun k => sm N (fun j => A i j * A j k * A k i - (if j = i then if k = i then A i i else 0 else 0)))) := by
  have h : sm N (fun i => sm N (fun k => sm N (fun j => A i j * A j k * A k i - (if j = i then if k = i then A i i else 0 else 0)))) = sm N (fun i => mm N (mm N A A) A i i - A i i) := sm_congr (fun i hi => by
    have h2 : sm N (fun k => sm N (fun j => A i j * A j k * A k i - (if j = i then if k = i then A i i else 0 else 0))) = sm N (fun k => mm N A A i k * A k i - (if k = i then A i i else 0)) := sm_congr (fun k hk => by
      rw [sm_sub, sm_mulr, sm_one (f := fun j => if j = i then if k = i then A i i else 0 else 0) hi (fun j _ hj => if_neg hj), if_pos rfl]
      rfl)
    rw [h2, sm_sub, sm_one (f := fun k => if k = i then A i i else 0) hi (fun j _ hj => if_neg hj), if_pos rfl]
    rfl)
  rw [h, sm_sub]
  rfl
theorem mp5 (hD : ∀ i j, 0 ≤ D i j) {i j k : Nat} (hi : i < N) (hj : j < N) (hk : k < N) (h1 : 1 ≤ D i j) (h2 : 1 ≤ D j k) (h3 : 1 ≤ D k i) : D i j ≤ mp N D 4 i k := by
  have k1 : mp N D 0 i j * D j k ≤ mp N D 1 i k := mp_step hD 0 i k hj
  have k2 : mp N D 1 i k * D k i ≤ mp N D 2 i i := mp_step hD 1 i i hk
  have k3 : mp N D 2 i i * D i j ≤ mp N D 3 i j := mp_step hD 2 i j hi
  have k4 : mp N D 3 i j * D j k ≤ mp N D 4 i k := mp_step hD 3 i k hj
  have l1 := le_mulr (mp_nn (N := N) hD 0 i j) h2
  have l2 := le_mulr (mp_nn (N := N) hD 1 i k) h3
  have l3 := le_mulr (mp_nn (N := N) hD 2 i i) h1
  have l4 := le_mulr (mp_nn (N := N) hD 3 i j) h2
  have e : mp N D 0 i j = D i j := rfl
  omega
theorem trF (hD : ∀ i j, 0 ≤ D i j) : tra N (mp N D 4) + tra N (mp N D 2) ≤ tra N (mp N D 14) + tra N D := by
  have e1 := tr_mmm (N := N) (mp N D 4)
  have e2 := tr_mmm (N := N) D
  rw [mm_mp, mm_mp] at e1
  have e3 : mm N (mm N D D) D = mp N D 2 := rfl
  rw [e3] at e2
  have h : sm N (fun i => sm N (fun k => sm N (fun j => D i j * D j k * D k i - (if j = i then if k = i then D i i else 0 else 0)))) ≤ sm N (fun i => sm N (fun j => sm N (fun k => mp N D 4 i k * mp N D 4 k j * mp N D 4 j i - (if k = i then if j = i then mp N D 4 i i else 0 else 0)))) := by
    refine sm_le (fun i hi => ?_)
    rw [sm_swap]
    refine sm_le (fun j hj => sm_le (fun k hk => ?_))
    have n1 := mp_nn (N := N) hD 4 i k
    have n2 := mp_nn (N := N) hD 4 k j
    have n3 := mp_nn (N := N) hD 4 j i
    have n4 := Int.mul_nonneg (Int.mul_nonneg n1 n2) n3
    by_cases ej : j = i
    · by_cases ek : k = i
      · subst ej ek
        rw [if_pos rfl, if_pos rfl, if_pos rfl, if_pos rfl]
        exact cu_mono (hD k k) (mp_diag hD 4 hk)
      · rw [if_pos ej, if_neg ek, if_neg ek]
        by_cases c : 1 ≤ D i j ∧ 1 ≤ D j k ∧ 1 ≤ D k i
        · obtain ⟨c1, c2, c3⟩ := c
          have m1 := mp5 hD hi hj hk c1 c2 c3
          have m2 := mp5 hD hk hi hj c3 c1 c2
          have m3 := mp5 hD hj hk hi c2 c3 c1
          have q1 := Int.mul_le_mul m1 m2 (by omega) n1
          have q2 := Int.mul_le_mul q1 m3 (by omega) (Int.mul_nonneg n1 n2)
          have q3 : D i j * D k i * D j k = D i j * D j k * D k i := by grind
          omega
        · have z : D i j * D j k * D k i = 0 := by
            have d1 := hD i j
            have d2 := hD j k
            have d3 := hD k i
            by_cases z1 : D i j = 0
            · rw [z1]; grind
            · by_cases z2 : D j k = 0
              · rw [z2]; grind
              · have z3 : D k i = 0 := by omega
                rw [z3]; grind
          omega
    · rw [if_neg ej]
      have s0 : (if k = i then if j = i then mp N D 4 i i else 0 else 0) = (0 : Int) := by
        rw [if_neg ej]
        split <;> rfl
      rw [s0]
      by_cases c : 1 ≤ D i j ∧ 1 ≤ D j k ∧ 1 ≤ D k i
      · obtain ⟨c1, c2, c3⟩ := c
        have m1 := mp5 hD hi hj hk c1 c2 c3
        have m2 := mp5 hD hk hi hj c3 c1 c2
        have m3 := mp5 hD hj hk hi c2 c3 c1
        have q1 := Int.mul_le_mul m1 m2 (by omega) n1
        have q2 := Int.mul_le_mul q1 m3 (by omega) (Int.mul_nonneg n1 n2)
        have q3 : D i j * D k i * D j k = D i j * D j k * D k i := by grind
        omega
      · have z : D i j * D j k * D k i = 0 := by
          have d1 := hD i j
          have d2 := hD j k
          have d3 := hD k i
          by_cases z1 : D i j = 0
          · rw [z1]; grind
          · by_cases z2 : D j k = 0
            · rw [z2]; grind
            · have z3 : D k i = 0 := by omega
              rw [z3]; grind
        omega
  have e4 : tra N (mp N D (4 + 4 + 1 + 4 + 1)) = tra N (mp N D 14) := rfl
  omega
end POS
theorem pos_all {N : Nat} {D : Nat → Nat → Int} (hD : ∀ i j, 0 ≤ D i j) {t p : Nat → Int} (ht : ∀ m, t (m + 1) = tra N (mp N D m)) (hp : ∀ m, p m = t m - tk p m m) : ∀ m, 1 ≤ m → m ≤ 18 → 0 ≤ p m := by
  have r1 : 0 ≤ tra N D := sm_nn (fun i _ => hD i i)
  have q : ∀ a b, tra N (mp N D a) ≤ tra N (mp N D (a * b + a + b)) := fun a b => by
    rw [← mp_mp]
    exact trQ (mp_nn hD a) b
  have s : ∀ a r, tra N (mp N D (a * (2 * r) + a + 2 * r)) + tra N (mp N D (a * 1 + a + 1)) ≤ tra N (mp N D (a * (4 * r + 1) + a + (4 * r + 1))) + tra N (mp N D a) := fun a r => by
    rw [← mp_mp, ← mp_mp, ← mp_mp]
    exact trS (mp_nn hD a) r
  have f := trF (N := N) hD
  have t1 : t 1 = tra N D := ht 0
  have t2 : t 2 = tra N (mp N D 1) := ht 1
  have t3 : t 3 = tra N (mp N D 2) := ht 2
  have t4 : t 4 = tra N (mp N D 3) := ht 3
  have t5 : t 5 = tra N (mp N D 4) := ht 4
  have t6 : t 6 = tra N (mp N D 5) := ht 5
  have t7 : t 7 = tra N (mp N D 6) := ht 6
  have t8 : t 8 = tra N (mp N D 7) := ht 7
  have t9 : t 9 = tra N (mp N D 8) := ht 8
  have t10 : t 10 = tra N (mp N D 9) := ht 9
  have t11 : t 11 = tra N (mp N D 10) := ht 10
  have t12 : t 12 = tra N (mp N D 11) := ht 11
  have t13 : t 13 = tra N (mp N D 12) := ht 12
  have t14 : t 14 = tra N (mp N D 13) := ht 13
  have t15 : t 15 = tra N (mp N D 14) := ht 14
  have t16 : t 16 = tra N (mp N D 15) := ht 15
  have t17 : t 17 = tra N (mp N D 16) := ht 16
  have t18 : t 18 = tra N (mp N D 17) := ht 17
  have q2 : tra N D ≤ tra N (mp N D 1) := q 0 1
  have q3 : tra N D ≤ tra N (mp N D 2) := q 0 2
  have q5 : tra N D ≤ tra N (mp N D 4) := q 0 4
  have q7 : tra N D ≤ tra N (mp N D 6) := q 0 6
  have q11 : tra N D ≤ tra N (mp N D 10) := q 0 10
  have q13 : tra N D ≤ tra N (mp N D 12) := q 0 12
  have q17 : tra N D ≤ tra N (mp N D 16) := q 0 16
  have q4 : tra N (mp N D 1) ≤ tra N (mp N D 3) := q 1 1
  have q8 : tra N (mp N D 3) ≤ tra N (mp N D 7) := q 3 1
  have q16 : tra N (mp N D 7) ≤ tra N (mp N D 15) := q 7 1
  have q9 : tra N (mp N D 2) ≤ tra N (mp N D 8) := q 2 2
  have s6 : tra N (mp N D 2) + tra N (mp N D 1) ≤ tra N (mp N D 5) + tra N D := s 0 1
  have s10 : tra N (mp N D 4) + tra N (mp N D 1) ≤ tra N (mp N D 9) + tra N D := s 0 2
  have s14 : tra N (mp N D 6) + tra N (mp N D 1) ≤ tra N (mp N D 13) + tra N D := s 0 3
  have s12 : tra N (mp N D 5) + tra N (mp N D 3) ≤ tra N (mp N D 11) + tra N (mp N D 1) := s 1 1
  have s18 : tra N (mp N D 8) + tra N (mp N D 5) ≤ tra N (mp N D 17) + tra N (mp N D 2) := s 2 1
  have k1 := hp 1
  have k2 := hp 2
  have k3 := hp 3
  have k4 := hp 4
  have k5 := hp 5
  have k6 := hp 6
  have k7 := hp 7
  have k8 := hp 8
  have k9 := hp 9
  have k10 := hp 10
  have k11 := hp 11
  have k12 := hp 12
  have k13 := hp 13
  have k14 := hp 14
  have k15 := hp 15
  have k16 := hp 16
  have k17 := hp 17
  have k18 := hp 18
  simp [tk, sm] at k1 k2 k3 k4 k5 k6 k7 k8 k9 k10 k11 k12 k13 k14 k15 k16 k17 k18
  intro m h1 h2
  obtain rfl | rfl | rfl | rfl | rfl | rfl | rfl | rfl | rfl | rfl | rfl | rfl | rfl | rfl | rfl | rfl | rfl | rfl : m = 1 ∨ m = 2 ∨ m = 3 ∨ m = 4 ∨ m = 5 ∨ m = 6 ∨ m = 7 ∨ m = 8 ∨ m = 9 ∨ m = 10 ∨ m = 11 ∨ m = 12 ∨ m = 13 ∨ m = 14 ∨ m = 15 ∨ m = 16 ∨ m = 17 ∨ m = 18 := by omega
  all_goals omega
