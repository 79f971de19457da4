theorem cmple (z : Int) (h1 : -2 ^ 63 ≤ z) (h2 : z < 2 ^ 63) : (lg_cmp (iL z) (0 : Int64) ≤ 0) ↔ z ≤ 0 := by
  have e1 : (iL z).toInt = z := Int64.toInt_ofInt_of_le h1 h2
  have e2 : (iL z > 0) ↔ 0 < z := by
    show (0 : Int64) < iL z ↔ 0 < z
    rw [Int64.lt_iff_toInt_lt, e1]
    exact Iff.rfl
  unfold lg_cmp
  by_cases c1 : iL z > 0
  · rw [if_pos c1]
    have := e2.mp c1
    exact ⟨fun h => absurd h (by decide), fun h => by omega⟩
  · rw [if_neg c1]
    have c2 : ¬ 0 < z := fun h => c1 (e2.mpr h)
    by_cases c3 : iL z = 0
    · rw [if_pos c3]; exact ⟨fun _ => by omega, fun _ => by decide⟩
    · rw [if_neg c3]; exact ⟨fun _ => by omega, fun _ => by decide⟩
section GIR
variable {v e : Int32} {f s n now : Nat → Int32} {a E : Nat} {x y : Nat → Nat}
theorem PR_pos (hG : GA v e f s n now 0 a E x y) {p ps A B : Nat → Int} (hP : PR (tw x y n E 0) (tw x y n E 1) p ps A B) : ∀ m, 1 ≤ m → m ≤ 18 → 0 ≤ p m := by
  refine pos_all (N := 2 * E) (D := MM x y (sgW 0 n)) (fun i j => ?_) (t := tw x y n E 0) (fun m => ?_) hP.1
  · show 0 ≤ bb x y i j * 1
    rcases bb_01 x y i j with h | h <;> rw [h] <;> decide
  · unfold tw
    rw [← rt_eq hG]
    rfl
theorem PR_sgn (hG : GA v e f s n now 0 a E x y) {p ps A B : Nat → Int} (hP : PR (tw x y n E 0) (tw x y n E 1) p ps A B) {m : Nat} (h1 : 1 ≤ m) (h2 : m ≤ 18) : (A m + B m ≤ 0 ↔ p m = 0) ∧ -2 ^ 63 ≤ A m + B m ∧ A m + B m < 2 ^ 63 := by
  have b1 := hP.2.2.2.2 m h1 h2
  have b2 := hP.2.2.1 m h1
  have b3 := PR_pos hG hP m h1 h2
  rw [b2] at b1 b3 ⊢
  generalize A m + B m = z at b1 b3 ⊢
  have hz : 0 ≤ z := by
    by_cases h : 0 ≤ z
    · exact h
    · have := Int.mul_neg_of_pos_of_neg (show (0 : Int) < m by omega) (show z < 0 by omega)
      omega
  have h3 : z ≤ (m : Int) * z := by
    have := Int.mul_le_mul_of_nonneg_right (show (1 : Int) ≤ m by omega) hz
    omega
  refine ⟨⟨fun h => ?_, fun h => by omega⟩, by omega, by omega⟩
  rw [show z = 0 by omega, Int.mul_zero]
end GIR
theorem pr_girth : Pr_girth := by
  intro I J K L C Mm hI
  obtain ⟨hg, hh, ht⟩ := id hI
  obtain ⟨a, E, x, y, hG⟩ := gr_GA hg
  obtain ⟨p, ps, A, B, hP⟩ := exPR hG
  unfold f_X8_girth f_X9_girth
  obtain ⟨r, c1, c2⟩ := c_countPrimitive hG (J 0) (J 2) (J 4) (J 5) p hP.1
  obtain ⟨r', d1, d2⟩ := m_laysPrimes hG (Nat.le_refl 18) hP (K 11) (K 12) (K 13) (K 14) (J 9) (J 10) (J 11) (J 17) (J 18) (J 19) (J 20)
  rw [bd_t c1, bd_t d1]
  obtain ⟨z, z', w1, w2, hQ⟩ := wh_rel (b1 := b_X8_girth_13 r) (b2 := b_X9_girth_8 r') (fun i s t => 1 ≤ i ∧ s = nI i ∧ t = nI i) (fun r1 r2 => r1 = r2) 19 (fun i s t hi ⟨p0, p1, p2⟩ => by
    subst p1 p2
    obtain ⟨s1, s2, s3⟩ := PR_sgn hG hP p0 (show i ≤ 18 by omega)
    obtain ⟨d3, d4⟩ := d2 i p0 (by omega)
    have b1 := hP.2.2.2.2 i p0 (by omega)
    unfold b_X8_girth_13 b_X9_girth_8
    simp (disch := omega) only [nlt, if_neg, ginb, ncl, nI_add, c2 i p0 (show i ≤ 18 by omega), d3, d4]
    rw [← iL_add]
    by_cases h : p i = 0
    · rw [if_pos ((cmp0 _ (by omega) (by omega)).mpr h), if_pos ((cmple _ s2 s3).mpr (s1.mpr h))]
      exact Or.inl ⟨_, _, rfl, rfl, by omega, rfl, rfl⟩
    · rw [if_neg (fun q => h ((cmp0 _ (by omega) (by omega)).mp q)), if_neg (fun q => h (s1.mp ((cmple _ s2 s3).mp q)))]
      exact Or.inr ⟨_, _, rfl, rfl, rfl⟩) (fun s t ⟨p0, p1, p2⟩ => by
    subst p1 p2
    unfold b_X8_girth_13 b_X9_girth_8
    simp (disch := omega) only [nlt, if_pos]
    exact ⟨_, _, rfl, rfl, rfl⟩) 1 (nI 1) (nI 1) (by omega) ⟨by omega, rfl, rfl⟩
  subst hQ
  rw [bd_t w1, bd_t w2]
  cases z with
  | inl z => exact ⟨_, _, rfl, rfl, rfl, hg, hh, ht⟩
  | inr z => exact ⟨_, _, rfl, rfl, rfl, hg, hh, ht⟩
theorem it_cd : ∀ m, m < 19 → ∀ d, d < 19 → 1 ≤ m → it (b_X8_commonDivisor_2 (nI m) (nI d)) 20 (nI m) = some (if Nat.gcd m d ≤ 1 then Sum.inr () else Sum.inl (nI (Nat.gcd m d))) := by decide +kernel
theorem it_eu : ∀ m, m < 19 → ∀ d, d < 19 → 1 ≤ m → it b_X9_period_21 20 (nI d, nI m) = some (nI (Nat.gcd m d)) := by decide +kernel
theorem gcd_b : ∀ m, m < 19 → ∀ d, d < 19 → 1 ≤ m → 1 ≤ Nat.gcd m d ∧ Nat.gcd m d < 19 := by decide +kernel
theorem c_cd {m d : Nat} (h1 : 1 ≤ m) (h2 : m < 19) (h3 : d < 19) : f_X8_commonDivisor (nI m) (nI d) = some (nI (Nat.gcd m d)) := by
  unfold f_X8_commonDivisor
  rw [bd_t (wh_of (it_cd m h2 d h3 h1))]
  have hb := gcd_b m h2 d h3 h1
  by_cases h : Nat.gcd m d ≤ 1
  · rw [if_pos h, show Nat.gcd m d = 1 by omega]; rfl
  · rw [if_neg h]; rfl
theorem pr_period : Pr_period := by
  intro I J K L C Mm hI
  obtain ⟨hg, hh, ht⟩ := id hI
  obtain ⟨a, E, x, y, hG⟩ := gr_GA hg
  obtain ⟨p, ps, A, B, hP⟩ := exPR hG
  unfold f_X8_period f_X9_period
  obtain ⟨r, c1, c2⟩ := c_countPrimitive hG (J 0) (J 2) (J 4) (J 5) p hP.1
  obtain ⟨r', d1, d2⟩ := m_laysPrimes hG (Nat.le_refl 18) hP (K 11) (K 12) (K 13) (K 14) (J 9) (J 10) (J 11) (J 17) (J 18) (J 19) (J 20)
  rw [bd_t c1, bd_t d1]
  obtain ⟨z, z', w1, w2, hQ⟩ := wh_rel (b1 := b_X8_period_15 r) (b2 := b_X9_period_10 r') (fun i s t => 1 ≤ i ∧ s = t ∧ ∃ d, d < 19 ∧ s = (nI i, nI d)) (fun r1 r2 => r1 = r2) 19 (fun i s t hi ⟨p0, p1, d, p2, p3⟩ => by
    subst p1 p3
    obtain ⟨s1, s2, s3⟩ := PR_sgn hG hP p0 (show i ≤ 18 by omega)
    obtain ⟨d3, d4⟩ := d2 i p0 (by omega)
    have b1 := hP.2.2.2.2 i p0 (by omega)
    have gb := gcd_b i hi d p2 p0
    unfold b_X8_period_15 b_X9_period_10
    dsimp only
    rw [bd_t (wh_of (it_eu i hi d p2 p0)), c_cd p0 hi p2]
    simp (disch := omega) only [nlt, if_neg, ginb, ncl, nI_add, c2 i p0 (show i ≤ 18 by omega), d3, d4]
    rw [← iL_add]
    by_cases h : p i = 0
    · rw [if_pos ((cmp0 _ (by omega) (by omega)).mpr h), if_pos ((cmple _ s2 s3).mpr (s1.mpr h))]
      exact Or.inl ⟨_, _, rfl, rfl, by omega, rfl, d, p2, rfl⟩
    · rw [if_neg (fun q => h ((cmp0 _ (by omega) (by omega)).mp q)), if_neg (fun q => h (s1.mp ((cmple _ s2 s3).mp q)))]
      exact Or.inl ⟨_, _, rfl, rfl, by omega, rfl, _, gb.2, rfl⟩) (fun s t ⟨p0, p1, d, p2, p3⟩ => by
    subst p1 p3
    unfold b_X8_period_15 b_X9_period_10
    simp (disch := omega) only [nlt, if_pos]
    exact ⟨_, _, rfl, rfl, rfl⟩) 1 (nI 1, nI 0) (nI 1, nI 0) (by omega) ⟨by omega, rfl, 0, by omega, rfl⟩
  subst hQ
  rw [bd_t w1, bd_t w2]
  by_cases h : z = 0
  · rw [if_pos h, if_pos h]
    exact ⟨_, _, rfl, rfl, rfl, hg, hh, ht⟩
  · rw [if_neg h, if_neg h]
    exact ⟨_, _, rfl, rfl, rfl, hg, hh, ht⟩
