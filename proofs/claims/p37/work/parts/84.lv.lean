section LV
variable {v e : Int32} {f s n now : Nat → Int32} {a E : Nat} {x y : Nat → Nat}
def adk (x y : Nat → Nat) (k i j : Nat) : Int := sm k (fun e => if tl x y e = i ∧ hd x y e = j then 1 else 0)
theorem m_laysVertices (hG : GA v e f s n now 0 a E x y) (q1 q2 q3 q4 : Int32) (mat : Nat → Int64) : ∃ r, f_X9_laysVertices q1 q2 q3 q4 now mat = some (nI (a + a), r) ∧ ∀ i j, i < a + a → j < a + a → r (18 * i + j) = iL (VM x y E a i j) := by
  obtain ⟨g1, g2, g3, g4, g5, g6, g7, g8⟩ := id hG
  rw [Nat.zero_add] at g7
  unfold f_X9_laysVertices
  simp (disch := omega) only [ginb, ncl, g6, nm_s]
  obtain ⟨r16, w1, w2⟩ := c_copyL (b := b_X9_laysVertices_16 (nI a)) (N := 18 * (2 * a)) (src := fun _ => 0) (fun i u hi => by
    unfold b_X9_laysVertices_16
    simp (disch := omega) only [pk_mul, nle, if_neg, nI_add, ginb, ncl]) (fun u => by
    unfold b_X9_laysVertices_16
    simp (disch := omega) only [pk_mul, nle, if_pos]) mat
  rw [bd_t w1]
  have hw := wh_inv (b := b_X9_laysVertices_42 q1 q2 q3 now (nI a)) (fun k u => u.1 = nI k ∧ ∀ i j, i < a + a → j < a + a → u.2 (18 * i + j) = iL (adk x y k i j)) (fun r => ∀ i j, i < a + a → j < a + a → r (18 * i + j) = iL (adj x y E i j)) (2 * E) (fun k u hk ⟨u1, u2⟩ => ?_) (fun u ⟨u1, u2⟩ => ?_) 0 (nI 0, r16) (by omega) ⟨rfl, fun i j hi hj => ?_⟩
  · obtain ⟨r42, v1, v2⟩ := hw
    rw [bd_t v1]
    have hw := wh_inv (b := b_X9_laysVertices_87 q1 q2 q3 now (nI a)) (fun k u => u.1 = nI k ∧ ∀ i j, i < a + a → j < a + a → u.2 (18 * i + j) = if i < k ∧ j = a + i then iL (1 - (degN x y i E : Int)) else if a ≤ i ∧ i < a + k ∧ j + a = i then iL 1 else iL (adj x y E i j)) (fun r => ∀ i j, i < a + a → j < a + a → r (18 * i + j) = iL (VM x y E a i j)) a (fun k u hk ⟨u1, u2⟩ => ?_) (fun u ⟨u1, u2⟩ => ?_) 0 (nI 0, r42) (by omega) ⟨rfl, fun i j hi hj => ?_⟩
    · obtain ⟨r87, t1, t2⟩ := hw
      rw [bd_t t1, pk_mul, show 2 * a = a + a by omega]
      exact ⟨_, rfl, t2⟩
    · obtain ⟨ui, um⟩ := u
      dsimp only at u1 u2
      subst u1
      have hd0 := degN_le x y k E
      unfold b_X9_laysVertices_87
      simp (disch := omega) only [nle, if_neg]
      rw [m_degreeOf hG hk, bd_s]
      simp (disch := omega) only [pk_mul, nI_add, ginb, ncl]
      refine ⟨_, rfl, rfl, fun i j hi hj => ?_⟩
      dsimp only
      rw [updL_at, updL_at]
      by_cases h1 : 18 * i + j = 18 * (a + k) + k
      · obtain rfl : i = a + k := by omega
        obtain rfl : j = k := by omega
        rw [if_pos rfl, if_neg (by omega), if_pos (by omega)]
        rfl
      · rw [if_neg h1]
        by_cases h2 : 18 * i + j = 18 * k + a + k
        · obtain rfl : i = k := by omega
          obtain rfl : j = a + i := by omega
          rw [if_pos (by omega), if_pos (by omega), nI_L (by omega), iL_sub]
          rfl
        · rw [if_neg (by omega), u2 i j hi hj]
          by_cases h3 : i < k ∧ j = a + i
          · rw [if_pos h3, if_pos (by omega)]
          · rw [if_neg h3, if_neg (show ¬ (i < k + 1 ∧ j = a + i) by omega)]
            by_cases h4 : a ≤ i ∧ i < a + k ∧ j + a = i
            · rw [if_pos h4, if_pos (by omega)]
            · rw [if_neg h4, if_neg (by omega)]
    · unfold b_X9_laysVertices_87
      simp (disch := omega) only [u1, nle, if_pos]
      refine ⟨_, rfl, fun i j hi hj => ?_⟩
      rw [u2 i j hi hj]
      unfold VM
      by_cases h3 : i < a ∧ j = a + i
      · rw [if_pos h3, if_pos h3]
      · rw [if_neg h3, if_neg h3]
        by_cases h4 : a ≤ i ∧ j + a = i
        · rw [if_pos (by omega), if_pos h4]
        · rw [if_neg (by omega), if_neg h4]
    · rw [if_neg (by omega), if_neg (by omega)]
      exact v2 i j hi hj
  · obtain ⟨ui, um⟩ := u
    dsimp only at u1 u2
    subst u1
    have t1 := tl_lt hG hk
    have t2 := hd_lt hG hk
    unfold b_X9_laysVertices_42
    simp (disch := omega) only [ginb, ncl, g7, pk_mul, nle, if_neg, (m_end hG hk).1, (m_end hG hk).2, bd_s, nI_add]
    refine ⟨_, rfl, rfl, fun i j hi hj => ?_⟩
    dsimp only
    rw [updL_at]
    have es : adk x y (k + 1) i j = adk x y k i j + (if tl x y k = i ∧ hd x y k = j then 1 else 0) := rfl
    by_cases h1 : 18 * i + j = 18 * tl x y k + hd x y k
    · have e1 : i = tl x y k := by omega
      have e2 : j = hd x y k := by omega
      rw [if_pos h1, ← h1, u2 i j hi hj, es, if_pos ⟨e1.symm, e2.symm⟩, iL_add]
      rfl
    · rw [if_neg h1, u2 i j hi hj, es, if_neg (fun q => h1 (by rw [q.1, q.2])), Int.add_zero]
  · unfold b_X9_laysVertices_42
    simp (disch := omega) only [ginb, ncl, g7, pk_mul, u1, nle, if_pos]
    exact ⟨_, rfl, u2⟩
  · show r16 (18 * i + j) = _
    rw [w2 _ (by omega)]
    rfl
/-! the minors -/
theorem edg_co (hG : GA v e f s n now 0 a E x y) {i j : Nat} (hi : i < a) (hj : j < a) (hne : i ≠ j) : ∃ d : Nat, d < 100 ∧ f_X2_edgesBetween (nI i) (nI j) v e f s = some (nI d) ∧ adj x y E i j = d := by
  obtain ⟨g1, g2, g3, g4, g5, g6, g7, g8⟩ := id hG
  have hw := wh_inv (b := b_X2_edgesBetween_5 (nI i) (nI j) e f s) (fun k u => u.1 = nI k ∧ ∃ d : Nat, d ≤ k ∧ u.2 = nI d ∧ sm k (fun l => (if tl x y (2 * l) = i ∧ hd x y (2 * l) = j then (1 : Int) else 0) + (if tl x y (2 * l + 1) = i ∧ hd x y (2 * l + 1) = j then 1 else 0)) = d) (fun r => ∃ d : Nat, d ≤ E ∧ r = nI d ∧ sm E (fun l => (if tl x y (2 * l) = i ∧ hd x y (2 * l) = j then (1 : Int) else 0) + (if tl x y (2 * l + 1) = i ∧ hd x y (2 * l + 1) = j then 1 else 0)) = d) E (fun k u hk ⟨u1, d, u2, u3, u4⟩ => ?_) (fun u ⟨u1, d, u2, u3, u4⟩ => ?_) 0 (nI 0, nI 0) (by omega) ⟨rfl, 0, by omega, rfl, rfl⟩
  · obtain ⟨r, w1, d, w2, w3, w4⟩ := hw
    subst w3
    refine ⟨d, by omega, ?_, ?_⟩
    · unfold f_X2_edgesBetween
      rw [bd_t w1]
    · unfold adj
      rw [sm_two]
      exact w4
  · obtain ⟨ui, ud⟩ := u
    dsimp only at u1 u3
    subst u1 u3
    obtain ⟨b1, b2, b3, b4, b5, -⟩ := g8 k hk
    have a1 : tl x y (2 * k) = x k := by unfold tl; rw [if_pos (by omega), show 2 * k / 2 = k by omega]
    have a2 : hd x y (2 * k) = y k := by unfold hd; rw [if_pos (by omega), show 2 * k / 2 = k by omega]
    have a3 : tl x y (2 * k + 1) = y k := by unfold tl; rw [if_neg (by omega), show (2 * k + 1) / 2 = k by omega]
    have a4 : hd x y (2 * k + 1) = x k := by unfold hd; rw [if_neg (by omega), show (2 * k + 1) / 2 = k by omega]
    have es : sm (k + 1) (fun l => (if tl x y (2 * l) = i ∧ hd x y (2 * l) = j then (1 : Int) else 0) + (if tl x y (2 * l + 1) = i ∧ hd x y (2 * l + 1) = j then 1 else 0)) = d + ((if x k = i ∧ y k = j then (1 : Int) else 0) + (if y k = i ∧ x k = j then 1 else 0)) := by
      rw [← u4, ← a1, ← a2]
      show _ + ((if tl x y (2 * k) = i ∧ hd x y (2 * k) = j then (1 : Int) else 0) + (if tl x y (2 * k + 1) = i ∧ hd x y (2 * k + 1) = j then 1 else 0)) = _
      rw [a3, a4, a1, a2]
    unfold b_X2_edgesBetween_5
    simp (disch := omega) only [g5, nle, if_neg, ginb, ncl, b4, b5, neq, nI_add]
    by_cases c1 : x k = i
    · by_cases c2 : y k = j
      · have n1 : ¬ x k = j := by omega
        rw [if_pos c1, if_pos c2, bd_s, if_neg n1, bd_s, if_neg (show ¬ (nI 1 : Int32) = 0 by decide)]
        refine ⟨_, rfl, rfl, d + 1, by omega, rfl, ?_⟩
        rw [es, if_pos ⟨c1, c2⟩, if_neg (by omega)]
        omega
      · have n1 : ¬ x k = j := by omega
        rw [if_pos c1, if_neg c2, bd_s, if_neg n1, bd_s, if_pos (show (nI 0 : Int32) = 0 by decide), if_pos (show (nI 0 : Int32) = 0 by decide)]
        refine ⟨_, rfl, rfl, d, by omega, rfl, ?_⟩
        rw [es, if_neg (by omega), if_neg (by omega)]
        omega
    · rw [if_neg c1, bd_s]
      by_cases c3 : x k = j
      · by_cases c4 : y k = i
        · rw [if_pos c3, if_pos c4, bd_s, if_pos (show (nI 0 : Int32) = 0 by decide), if_neg (show ¬ (nI 1 : Int32) = 0 by decide)]
          refine ⟨_, rfl, rfl, d + 1, by omega, rfl, ?_⟩
          rw [es, if_neg (by omega), if_pos (by omega)]
          omega
        · rw [if_pos c3, if_neg c4, bd_s, if_pos (show (nI 0 : Int32) = 0 by decide), if_pos (show (nI 0 : Int32) = 0 by decide)]
          refine ⟨_, rfl, rfl, d, by omega, rfl, ?_⟩
          rw [es, if_neg (by omega), if_neg (by omega)]
          omega
      · rw [if_neg c3, bd_s, if_pos (show (nI 0 : Int32) = 0 by decide), if_pos (show (nI 0 : Int32) = 0 by decide)]
        refine ⟨_, rfl, rfl, d, by omega, rfl, ?_⟩
        rw [es, if_neg (by omega), if_neg (by omega)]
        omega
  · unfold b_X2_edgesBetween_5
    simp (disch := omega) only [g5, u1, nle, if_pos]
    exact ⟨_, rfl, d, u2, u3, u4⟩
/-- a multiple of a shifted row is added -/
theorem c_addShifted {t : Nat} (ht : t ≤ 2) (z : Int) (P : PS) (rest q : Nat → Int64) (Q : Nat → Int) (hr : ∀ k, k ≤ 12 → rest k = iL (P k)) (hq : ∀ k, k ≤ 12 → q k = iL (Q k)) : ∃ r, f_X6_addShifted (nI t) (iL z) 13 rest 13 q = some r ∧ ∀ k, k ≤ 12 → r k = iL (Q k + z * (if k < t then 0 else P (k - t))) := by
  unfold f_X6_addShifted
  have hw := wh_inv (b := b_X6_addShifted_3 (nI t) (iL z) 13 rest 13) (fun i u => u.1 = nI i ∧ t ≤ i ∧ ∀ k, k ≤ 12 → u.2 k = iL (Q k + z * (if k < t ∨ i ≤ k then 0 else P (k - t)))) (fun r => ∀ k, k ≤ 12 → r k = iL (Q k + z * (if k < t then 0 else P (k - t)))) 13 (fun i u hi ⟨u1, u0, u2⟩ => ?_) (fun u ⟨u1, u0, u2⟩ => ?_) t (nI t, q) (by omega) ⟨rfl, Nat.le_refl t, fun k hk => ?_⟩
  · obtain ⟨r, w1, w2⟩ := hw
    rw [bd_t w1]
    exact ⟨_, rfl, w2⟩
  · obtain ⟨ui, um⟩ := u
    dsimp only at u1 u2
    subst u1
    unfold b_X6_addShifted_3
    simp (disch := omega) only [nlt, if_neg, nsub, ginb, ncl, nI_add]
    refine ⟨_, rfl, rfl, by omega, fun k hk => ?_⟩
    dsimp only
    rw [updL_at]
    by_cases h : k = i
    · subst h
      rw [if_pos rfl, u2 k hk, hr (k - t) (by omega), ← iL_mul, ← iL_add, if_pos (by omega), if_neg (by omega), Int.mul_zero, Int.add_zero]
    · rw [if_neg h, u2 k hk]
      by_cases h2 : k < t ∨ i ≤ k
      · rw [if_pos h2, if_pos (by omega)]
      · rw [if_neg h2, if_neg (by omega)]
  · unfold b_X6_addShifted_3
    simp (disch := omega) only [u1, nlt, if_pos]
    refine ⟨_, rfl, fun k hk => ?_⟩
    rw [u2 k hk]
    by_cases h2 : k < t
    · rw [if_pos h2, if_pos (by omega)]
    · rw [if_neg h2, if_neg (by omega)]
  · show q k = _
    rw [hq k hk, if_pos (by omega), Int.mul_zero, Int.add_zero]
theorem iL_neg1 (b : Bool) (z : Int) : iL (sgb b * z) = iL (sgb b) * iL z := iL_mul _ _
/-- a coefficient of an entry of the matrix times a series -/
theorem Bv_co (i j c : Nat) (b : Bool) (P : PS) : letI := psR; (sgb b * (Bv x y E i j * P)) c = sgb b * ((if i = j then P c else 0) - adj x y E i j * (if c < 1 then 0 else P (c - 1)) + (if i = j then ((degN x y i E : Int) - 1) * (if c < 2 then 0 else P (c - 2)) else 0)) := by
  letI := psR
  have e1 : Bv x y E i j * P = dl i j * P - pu * (pc (adj x y E i j) * P) + (if i = j then pu * (pu * (pc ((degN x y i E : Int) - 1) * P)) else 0) := by
    have : Bv x y E i j = dl i j - pu * pc (adj x y E i j) + (if i = j then pu * pu * pc ((degN x y i E : Int) - 1) else 0) := rfl
    rw [this]
    by_cases h : i = j
    · rw [if_pos h, if_pos h]; grind
    · rw [if_neg h, if_neg h]; grind
  have e2 : (Bv x y E i j * P) c = (if i = j then P c else 0) - adj x y E i j * (if c < 1 then 0 else P (c - 1)) + (if i = j then ((degN x y i E : Int) - 1) * (if c < 2 then 0 else P (c - 2)) else 0) := by
    rw [e1]
    show cv (dl i j) P c - cv pu (cv (pc (adj x y E i j)) P) c + (if i = j then pu * (pu * (pc ((degN x y i E : Int) - 1) * P)) else 0) c = _
    rw [cv_u]
    have e3 : cv (dl i j) P c = if i = j then P c else 0 := by
      unfold dl
      by_cases h : i = j
      · rw [if_pos h, if_pos h]
        show cv (pc 1) P c = _
        rw [cv_c, Int.one_mul]
      · rw [if_neg h, if_neg h]
        show cv (pc 0) P c = _
        rw [cv_c, Int.zero_mul]
    have e4 : (if c = 0 then 0 else cv (pc (adj x y E i j)) P (c - 1)) = adj x y E i j * (if c < 1 then 0 else P (c - 1)) := by
      by_cases h : c = 0
      · rw [if_pos h, if_pos (by omega), Int.mul_zero]
      · rw [if_neg h, if_neg (by omega), cv_c]
    have e5 : (if i = j then pu * (pu * (pc ((degN x y i E : Int) - 1) * P)) else 0) c = if i = j then ((degN x y i E : Int) - 1) * (if c < 2 then 0 else P (c - 2)) else 0 := by
      by_cases h : i = j
      · rw [if_pos h, if_pos h]
        show cv pu (cv pu (cv (pc ((degN x y i E : Int) - 1)) P)) c = _
        rw [cv_u]
        by_cases h0 : c = 0
        · rw [if_pos h0, if_pos (by omega), Int.mul_zero]
        · rw [if_neg h0, cv_u]
          by_cases h1 : c - 1 = 0
          · rw [if_pos h1, if_pos (by omega), Int.mul_zero]
          · rw [if_neg h1, if_neg (by omega), cv_c, show c - 1 - 1 = c - 2 by omega]
      · rw [if_neg h, if_neg h]
        show (if c = 0 then ((0 : Nat) : Int) else 0) = 0
        split <;> rfl
    rw [e3, e4, e5]
  rw [← e2]
  cases b with
  | false =>
    have e4 : (sgb false : PS) * (Bv x y E i j * P) = Bv x y E i j * P := by
      unfold sgb
      rw [if_neg (by decide)]
      grind
    have e5 : (sgb false : Int) = 1 := rfl
    rw [e4, e5, Int.one_mul]
  | true =>
    have e4 : (sgb true : PS) * (Bv x y E i j * P) = - (Bv x y E i j * P) := by
      unfold sgb
      rw [if_pos rfl]
      grind
    have e5 : (sgb true : Int) = -1 := rfl
    rw [e4, e5]
    show - (Bv x y E i j * P) c = _
    omega
theorem c_addProduct (hG : GA v e f s n now 0 a E x y) {i j : Nat} (hi : i < a) (hj : j < a) (b : Bool) (P : PS) (rest q : Nat → Int64) (Q : Nat → Int) (hr : ∀ k, k ≤ 12 → rest k = iL (P k)) (hq : ∀ k, k ≤ 12 → q k = iL (Q k)) : ∃ r, f_X6_addProduct (nI i) (nI j) (iL (sgb b)) v e f s 13 rest 13 q = some r ∧ ∀ k, k ≤ 12 → r k = iL (Q k + (letI := psR; (sgb b * (Bv x y E i j * P)) k)) := by
  have g2 := hG.2.1
  unfold f_X6_addProduct
  simp (disch := omega) only [neq]
  by_cases h : i = j
  · subst h
    have hd0 := degN_le x y i E
    have g3 := hG.2.2.1
    obtain ⟨r1, w1, w2⟩ := c_addShifted (t := 0) (by omega) (sgb b) P rest q Q hr hq
    have ed : iL (sgb b) * (nI (degN x y i E) - nI 1).toInt64 = iL (sgb b * ((degN x y i E : Int) - 1)) := by
      rw [iL_of, pk_sub_toInt (by omega) (by omega), iL_mul]
      rfl
    obtain ⟨r2, w3, w4⟩ := c_addShifted (t := 2) (by omega) (sgb b * ((degN x y i E : Int) - 1)) P rest r1 _ hr w2
    rw [if_pos rfl, bd_t w1, c_edgesAt hG hi, bd_s, ed, bd_t w3]
    refine ⟨_, rfl, fun k hk => ?_⟩
    rw [w4 k hk, Bv_co, if_pos rfl, if_pos rfl, adj_self hG i, if_neg (by omega), Nat.sub_zero]
    congr 1
    grind
  · obtain ⟨d, d1, d2, d3⟩ := edg_co hG hi hj h
    have ed : (- iL (sgb b)) * (nI d).toInt64 = iL (- sgb b * adj x y E i j) := by
      rw [nI_L (by omega), d3, iL_mul, iL_neg]
    obtain ⟨r1, w1, w2⟩ := c_addShifted (t := 1) (by omega) (- sgb b * adj x y E i j) P rest q Q hr hq
    rw [if_neg h, d2, bd_s, ed, bd_t w1]
    refine ⟨_, rfl, fun k hk => ?_⟩
    rw [w2 k hk, Bv_co, if_neg h, if_neg h]
    congr 1
    grind
end LV
