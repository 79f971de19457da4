section PRN
variable {v e : Int32} {f s n now : Nat → Int32} {a E : Nat} {x y : Nat → Nat}
theorem mp_loop {M : Nat} (hM : M ≤ 18) (q q' : Int32 × (Nat → Int64) × (Nat → Int64) × (Nat → Int64) × (Nat → Int64)) (t ts p ps A B : Nat → Int) (hP : PR t ts p ps A B) (hq : ∀ m, 1 ≤ m → m ≤ M → q.2.2.2.2 m = iL (t m)) (hq' : ∀ m, 1 ≤ m → m ≤ M → q'.2.2.2.2 m = iL (ts m)) (pl mi : Nat → Int64) : ∃ r, wh (b_X9_laysPrimes_22 (nI M) q q') (nI 1, pl, mi) = some r ∧ ∀ m, 1 ≤ m → m ≤ M → r.1 m = iL (A m) ∧ r.2 m = iL (B m) := by
  obtain ⟨P1, P2, P3, P4, P5⟩ := hP
  refine wh_inv (b := b_X9_laysPrimes_22 (nI M) q q') (fun i z => z.1 = nI i ∧ 1 ≤ i ∧ ∀ m, 1 ≤ m → m < i → z.2.1 m = iL (A m) ∧ z.2.2 m = iL (B m)) (fun r => ∀ m, 1 ≤ m → m ≤ M → r.1 m = iL (A m) ∧ r.2 m = iL (B m)) (M + 1) (fun i z hi ⟨z1, z0, z2⟩ => ?_) (fun z ⟨z1, z0, z2⟩ => ?_) 1 (nI 1, pl, mi) (by omega) ⟨rfl, Nat.le_refl 1, fun m h1 h2 => absurd h1 (by omega)⟩
  · obtain ⟨zi, zp, zm⟩ := z
    dsimp only at z1 z2
    subst z1
    unfold b_X9_laysPrimes_22
    simp (disch := omega) only [nlt, if_neg, ginb, ncl, nm_s]
    have hw := wh_inv (b := b_X9_laysPrimes_45 (nI i, zp, zm)) (fun d u => u.1 = nI d ∧ 1 ≤ d ∧ u.2.1 = iL (ts i - tks p ps d i) ∧ u.2.2 = iL (t i - tk p d i)) (fun r => r.1 = iL (p i) ∧ r.2 = iL (ps i)) i (fun d u hd ⟨u1, u0, u2, u3⟩ => ?_) (fun u ⟨u1, u0, u2, u3⟩ => ?_) 1 (nI 1, q'.2.2.2.2 i, q.2.2.2.2 i) (by omega) ⟨rfl, Nat.le_refl 1, ?_, ?_⟩
    · obtain ⟨⟨r1, r2⟩, w1, w2, w3⟩ := hw
      dsimp only at w2 w3
      subst w2 w3
      have b1 := P5 i z0 (by omega)
      have d1 : p i + ps i = 2 * ((i : Int) * A i) := by rw [P3 i z0, P4 i z0]; grind
      have d2 : p i - ps i = 2 * ((i : Int) * B i) := by rw [P3 i z0, P4 i z0]; grind
      have f1 : (iL (p i) + iL (ps i)) / (2 : Int64) / (nI i).toInt64 = iL (A i) := by
        rw [← iL_add, ← iL_2, d1, iL_div (by omega) (by omega) (by omega) (by omega), Int.mul_tdiv_cancel_left _ (by omega), nI_L (by omega), iL_div (by omega) (by omega) (by omega) (by omega), Int.mul_tdiv_cancel_left _ (by omega)]
      have f2 : (iL (p i) - iL (ps i)) / (2 : Int64) / (nI i).toInt64 = iL (B i) := by
        rw [← iL_sub, ← iL_2, d2, iL_div (by omega) (by omega) (by omega) (by omega), Int.mul_tdiv_cancel_left _ (by omega), nI_L (by omega), iL_div (by omega) (by omega) (by omega) (by omega), Int.mul_tdiv_cancel_left _ (by omega)]
      rw [bd_t w1]
      dsimp only
      rw [gd_t (nzl_i z0 (by omega)), gd_t (nzl_i z0 (by omega)), f1, f2, nI_add]
      refine ⟨_, rfl, rfl, by omega, fun m h1 h2 => ?_⟩
      dsimp only
      rw [updL_at, updL_at]
      by_cases h : m = i
      · rw [if_pos h, if_pos h, h]; exact ⟨rfl, rfl⟩
      · rw [if_neg h, if_neg h]; exact z2 m h1 (by omega)
    · obtain ⟨ud, us, ua⟩ := u
      dsimp only at u1 u2 u3
      subst u1 u2 u3
      have hmd : i % d < 2 ^ 31 := by have := Nat.mod_le i d; omega
      have hdd : i / d < 2 ^ 31 := by have := Nat.div_le_self i d; omega
      have hg : 0 < d := by omega
      have e1 : nI i - nI i / nI d * nI d = nI (i % d) := nmod (by omega) hg (by omega)
      have e2 : nI i / nI d = nI (i / d) := ndiv (by omega) hg (by omega)
      have e3 : nI (i / d) - nI (i / d) / nI 2 * nI 2 = nI (i / d % 2) := nmod hdd (by omega) (by omega)
      obtain ⟨g1, g2⟩ := z2 d u0 hd
      unfold b_X9_laysPrimes_45
      dsimp only
      rw [e1, e2, e3]
      simp (disch := omega) only [nle, if_neg, gnz, neq0, ginb, ncl, nI_add, nm_s, g1, g2, nI_L]
      by_cases h : i % d = 0
      · rw [if_pos h]
        have k1 : iL (t i - tk p d i) - iL (d : Int) * (iL (A d) + iL (B d)) = iL (t i - tk p (d + 1) i) := by
          rw [← iL_add, ← iL_mul, ← P3 d u0, ← iL_sub, tk_s, if_neg (by omega), if_pos h]
          congr 1
          omega
        by_cases h2 : i / d % 2 = 0
        · rw [if_pos h2, bd_s]
          refine ⟨_, rfl, rfl, by omega, ?_, k1⟩
          dsimp only
          rw [← iL_add, ← iL_mul, ← P3 d u0, ← iL_sub, tks_s, if_neg (by omega), if_pos h, if_pos h2]
          congr 1
          omega
        · rw [if_neg h2, bd_s]
          refine ⟨_, rfl, rfl, by omega, ?_, k1⟩
          dsimp only
          rw [← iL_sub (A d), ← iL_mul, ← P4 d u0, ← iL_sub, tks_s, if_neg (by omega), if_pos h, if_neg h2]
          congr 1
          omega
      · rw [if_neg h]
        refine ⟨_, rfl, rfl, by omega, ?_, ?_⟩
        · dsimp only
          rw [tks_s, if_neg (by omega), if_neg h, Int.add_zero]
        · dsimp only
          rw [tk_s, if_neg (by omega), if_neg h, Int.add_zero]
    · unfold b_X9_laysPrimes_45
      simp (disch := omega) only [u1, nle, if_pos]
      exact ⟨_, rfl, by rw [u3, ← P1], by rw [u2, ← P2]⟩
    · dsimp only
      rw [hq' i z0 (by omega)]
      congr 1
      show ts i = ts i - (0 + 0)
      omega
    · dsimp only
      rw [hq i z0 (by omega)]
      congr 1
      show t i = t i - (0 + 0)
      omega
  · unfold b_X9_laysPrimes_22
    simp (disch := omega) only [z1, nlt, if_pos]
    exact ⟨_, rfl, fun m h1 h2 => z2 m h1 (by omega)⟩
theorem m_laysPrimes (hG : GA v e f s n now 0 a E x y) {M : Nat} (hM : M ≤ 18) {p ps A B : Nat → Int} (hP : PR (tw x y n E 0) (tw x y n E 1) p ps A B) (q1 q2 q3 q4 : Int32) (mat pow prd tr sg pl mi : Nat → Int64) : ∃ r, f_X9_laysPrimes (nI M) q1 q2 q3 q4 now mat pow prd tr sg pl mi = some r ∧ ∀ m, 1 ≤ m → m ≤ M → r.2.2.2.2.2.2.1 m = iL (A m) ∧ r.2.2.2.2.2.2.2 m = iL (B m) := by
  unfold f_X9_laysPrimes
  obtain ⟨r1, c1, -, c2⟩ := m_laysTraces hG (w := 0) (by omega) hM q1 q2 q3 q4 mat pow prd tr
  obtain ⟨r2, c3, -, c4⟩ := m_laysTraces hG (w := 1) (by omega) hM q1 q2 q3 r1.1 r1.2.1 r1.2.2.1 r1.2.2.2.1 sg
  have ht : ∀ w m, rtr x y (sgW w n) E m = tw x y n E w m := fun w m => rt_eq hG w m
  obtain ⟨r3, c5, c6⟩ := mp_loop hM r1 r2 (tw x y n E 0) (tw x y n E 1) p ps A B hP (fun m h1 h2 => by rw [c2 m h1 h2, ht]) (fun m h1 h2 => by rw [c4 m h1 h2, ht]) pl mi
  rw [bd_t c1, bd_t c3, bd_t c5]
  exact ⟨_, rfl, c6⟩
end PRN
theorem pr_primes : Pr_primes := by
  intro I J K L C Mm p1 hI
  obtain ⟨hg, hh, ht⟩ := id hI
  obtain ⟨a, E, x, y, hG⟩ := gr_GA hg
  obtain ⟨p, ps, A, B, hP⟩ := exPR hG
  unfold f_X8_primes f_X9_primes
  rcases c_walkLen p1 with ⟨l1, l2⟩ | ⟨m, m1, m2, rfl, l1, l2⟩
  · rw [l1, l2, bd_s, bd_s, if_pos (show (nI 0 : Int32) = 0 by decide), if_pos (show (nI 0 : Int32) = 0 by decide)]
    exact ⟨_, _, rfl, rfl, rfl, hg, hh, ht⟩
  · rw [l1, l2, bd_s, bd_s, if_neg (show ¬ (nI 1 : Int32) = 0 by decide), if_neg (show ¬ (nI 1 : Int32) = 0 by decide)]
    obtain ⟨r, c1, c2⟩ := c_countPrimitive hG (J 0) (J 2) (J 4) (J 5) p hP.1
    obtain ⟨r', d1, d2⟩ := m_laysPrimes hG m2 hP (K 11) (K 12) (K 13) (K 14) (J 9) (J 10) (J 11) (J 17) (J 18) (J 19) (J 20)
    obtain ⟨d3, d4⟩ := d2 m m1 (Nat.le_refl m)
    rw [bd_t c1, bd_t d1, ginb (by omega) (by omega), ginb (by omega) (by omega), ginb (by omega) (by omega), ncl (by omega), gd_t (nzl_i m1 (by omega))]
    refine ⟨_, _, rfl, rfl, ?_, hg, hh, ht⟩
    have b1 := hP.2.2.2.2 m m1 m2
    have b2 := hP.2.2.1 m m1
    show r.2.1 m / (nI m).toInt64 = r'.2.2.2.2.2.2.1 m + r'.2.2.2.2.2.2.2 m
    rw [d3, d4, c2 m m1 m2, nI_L (by omega), ← iL_add, b2, iL_div (by omega) (by omega) (by omega) (by omega), Int.mul_tdiv_cancel_left _ (by omega)]
theorem pr_positivePrimes : Pr_positivePrimes := by
  intro I J K L C Mm p1 hI
  obtain ⟨hg, hh, ht⟩ := id hI
  obtain ⟨a, E, x, y, hG⟩ := gr_GA hg
  obtain ⟨p, ps, A, B, hP⟩ := exPR hG
  unfold f_X8_positivePrimes f_X9_positivePrimes
  rcases c_walkLen p1 with ⟨l1, l2⟩ | ⟨m, m1, m2, rfl, l1, l2⟩
  · rw [l1, l2, bd_s, bd_s, if_pos (show (nI 0 : Int32) = 0 by decide), if_pos (show (nI 0 : Int32) = 0 by decide)]
    exact ⟨_, _, rfl, rfl, rfl, hg, hh, ht⟩
  · rw [l1, l2, bd_s, bd_s, if_neg (show ¬ (nI 1 : Int32) = 0 by decide), if_neg (show ¬ (nI 1 : Int32) = 0 by decide)]
    obtain ⟨r, c1, c2, c3⟩ := c_countPrimitiveSigned hG (J 0) (J 1) (J 2) (J 3) (J 4) (J 5) p ps hP.1 hP.2.1
    obtain ⟨r', d1, d2⟩ := m_laysPrimes hG m2 hP (K 11) (K 12) (K 13) (K 14) (J 9) (J 10) (J 11) (J 17) (J 18) (J 19) (J 20)
    obtain ⟨d3, d4⟩ := d2 m m1 (Nat.le_refl m)
    rw [bd_t c1, bd_t d1, ginb (by omega) (by omega), ginb (by omega) (by omega), ginb (by omega) (by omega), ncl (by omega), nm_s, gd_t (nzl_i m1 (by omega))]
    refine ⟨_, _, rfl, rfl, ?_, hg, hh, ht⟩
    have b1 := hP.2.2.2.2 m m1 m2
    have b2 := hP.2.2.1 m m1
    have b3 := hP.2.2.2.1 m m1
    have e1 : p m + ps m = 2 * ((m : Int) * A m) := by rw [b2, b3]; grind
    show (r.2.2.1 m + r.2.2.2.1 m) / (2 : Int64) / (nI m).toInt64 = r'.2.2.2.2.2.2.1 m
    rw [d3, c2 m m1 m2, c3 m m1 m2, nI_L (by omega), ← iL_add, e1, ← iL_2, iL_div (by omega) (by omega) (by omega) (by omega), Int.mul_tdiv_cancel_left _ (by omega), iL_div (by omega) (by omega) (by omega) (by omega), Int.mul_tdiv_cancel_left _ (by omega)]
