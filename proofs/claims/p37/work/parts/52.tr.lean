variable {v e : Int32} {f s n now : Nat → Int32} {a E : Nat} {x y : Nat → Nat}
/-- the returns through the directed edges before the k-th -/
noncomputable def rt (x y : Nat → Nat) (σ : Nat → Int) (E k m : Nat) : Int := sm k (fun j => 2 * mp (2 * E) (TT x y σ) (m - 1) (2 * j) (2 * j))
theorem c_addReturns (hG : GA v e f s n now 0 a E x y) {w : Nat} (hw2 : w < 2) (reached arrived p3 : Nat → Int64) : ∃ r, f_X7_addReturns (nI w) reached arrived v e f s n 19 p3 = some r ∧ ∀ m, 1 ≤ m → m ≤ 18 → r.2.2 m = iL (rt x y (sgW w n) E E m) := by
  obtain ⟨g1, g2, g3, g4, g5, g6, g7, g8⟩ := id hG
  unfold f_X7_addReturns
  obtain ⟨q, w1, w2⟩ := c_fill (0 : Int64) (n := 19) (by omega) p3
  rw [bd_t w1]
  have hw := wh_inv (b := b_X7_addReturns_8 (nI w) v e f s n 19) (fun i u => u.1 = nI i ∧ ∀ m, 1 ≤ m → m ≤ 18 → u.2.2.2 m = iL (rt x y (sgW w n) E i m)) (fun r => ∀ m, 1 ≤ m → m ≤ 18 → r.2.2 m = iL (rt x y (sgW w n) E E m)) E (fun i u hi ⟨u1, u2⟩ => ?_) (fun u ⟨u1, u2⟩ => ?_) 0 (nI 0, reached, arrived, q) (by omega) ⟨rfl, fun m h1 h2 => w2 m (by omega)⟩
  · obtain ⟨r, v1, v2⟩ := hw
    rw [bd_t v1]
    exact ⟨_, rfl, v2⟩
  · obtain ⟨ui, ur, ua, uc⟩ := u
    dsimp only at u1 u2
    subst u1
    unfold b_X7_addReturns_8
    obtain ⟨q1, q2, q3⟩ := c_fill (0 : Int64) (n := 18) (by omega) ur
    simp (disch := omega) only [g5, nle, if_neg, pk_mul, nm_s, ginb, ncl]
    rw [bd_t q2, ← g5]
    have hw := wh_inv (b := b_X7_addReturns_42 (nI w) v e f s n 19 (nI (2 * i))) (fun m u => ∃ m', m = m' + 1 ∧ u.1 = nI m ∧ (∀ d, d < 2 * E → u.2.1 d = iL (if m' = 0 then (if d = 2 * i then 1 else 0) else mp (2 * E) (TT x y (sgW w n)) (m' - 1) (2 * i) d)) ∧ ∀ k, 1 ≤ k → k ≤ 18 → u.2.2.2 k = iL (rt x y (sgW w n) E (if k < m then i + 1 else i) k)) (fun r => ∀ k, 1 ≤ k → k ≤ 18 → r.2.2 k = iL (rt x y (sgW w n) E (i + 1) k)) 19 (fun m u hm hu => ?_) (fun u hu => ?_) 1 (nI 1, vp_updL q1 (2 * i) (1 : Int64), ua, uc) (by omega) ⟨0, rfl, rfl, fun d hd => ?_, fun k k1 k2 => ?_⟩
    · obtain ⟨r, v1, v2⟩ := hw
      rw [bd_t v1, nI_add]
      exact ⟨_, rfl, rfl, v2⟩
    · obtain ⟨m', rfl, u3, u4, u5⟩ := hu
      obtain ⟨vi, vr, va, vc⟩ := u
      dsimp only at u3 u4 u5
      subst u3
      obtain ⟨⟨r1, r2⟩, t1, t2⟩ := c_goOn hG hw2 vr va _ u4
      have hmp : ∀ d, d < 2 * E → r1 d = iL (mp (2 * E) (TT x y (sgW w n)) m' (2 * i) d) := by
        intro d hd'
        rw [show r1 d = (r1, r2).1 d from rfl, t2 d hd']
        congr 1
        cases m' with
        | zero =>
          rw [sm_one (k := 2 * i) (by omega) (fun j hj hne => by rw [if_pos rfl, if_neg hne]; omega), if_pos rfl, if_pos rfl, Int.one_mul]
          rfl
        | succ m' =>
          refine sm_congr (fun k hk => ?_)
          rw [if_neg (by omega)]
          rfl
      unfold b_X7_addReturns_42
      simp (disch := omega) only [nlt, if_neg, nI_add, ginb, ncl]
      rw [bd_t t1]
      refine ⟨_, rfl, m' + 1, rfl, rfl, fun d hd' => ?_, fun k k1 k2 => ?_⟩
      · rw [if_neg (by omega)]; exact hmp d hd'
      · dsimp only
        rw [updL_at]
        by_cases hk : k = m' + 1
        · subst hk
          rw [if_pos rfl, u5 _ k1 k2, hmp (2 * i) (by omega), if_neg (by omega), if_pos (by omega), ← iL_2, ← iL_mul, ← iL_add]
          rfl
        · rw [if_neg hk, u5 k k1 k2]
          by_cases h : k < m' + 1
          · rw [if_pos h, if_pos (by omega)]
          · rw [if_neg h, if_neg (by omega)]
    · obtain ⟨m', h', u3, u4, u5⟩ := hu
      unfold b_X7_addReturns_42
      simp (disch := omega) only [u3, nlt, if_pos]
      refine ⟨_, rfl, fun k k1 k2 => ?_⟩
      have := u5 k k1 k2
      rw [if_pos (by omega)] at this
      exact this
    · rw [if_pos rfl]
      dsimp only
      rw [updL_at]
      by_cases h : d = 2 * i
      · rw [if_pos h, if_pos h]; rfl
      · rw [if_neg h, if_neg h, q3 d (by omega)]; rfl
    · rw [if_neg (by omega)]; exact u2 k k1 k2
  · unfold b_X7_addReturns_8
    simp (disch := omega) only [g5, u1, nle, if_pos]
    exact ⟨_, rfl, u2⟩
theorem m_laysEdges (hG : GA v e f s n now 0 a E x y) {w : Nat} (hw2 : w < 2) (q1 q2 q3 q4 : Int32) (mat : Nat → Int64) : ∃ r, f_X9_laysEdges (nI w) q1 q2 q3 q4 now mat = some (nI (2 * E), r) ∧ ∀ i j, i < 2 * E → j < 2 * E → r (18 * i + j) = iL (MM x y (sgW w n) i j) := by
  obtain ⟨g1, g2, g3, g4, g5, g6, g7, g8⟩ := id hG
  rw [Nat.zero_add] at g7
  unfold f_X9_laysEdges
  simp (disch := omega) only [ginb, ncl, g7, pk_mul]
  have hw := wh_inv (b := b_X9_laysEdges_14 (nI w) q1 q2 q3 now) (fun i u => u.1 = nI i ∧ ∀ i' j, i' < i → j < 2 * E → u.2 (18 * i' + j) = iL (MM x y (sgW w n) i' j)) (fun r => ∀ i j, i < 2 * E → j < 2 * E → r (18 * i + j) = iL (MM x y (sgW w n) i j)) (2 * E) (fun i u hi ⟨u1, u2⟩ => ?_) (fun u ⟨u1, u2⟩ => ?_) 0 (nI 0, mat) (by omega) ⟨rfl, fun i j h => absurd h (Nat.not_lt_zero i)⟩
  · obtain ⟨r, v1, v2⟩ := hw
    rw [bd_t v1]
    exact ⟨_, rfl, v2⟩
  · obtain ⟨ui, um⟩ := u
    dsimp only at u1 u2
    subst u1
    unfold b_X9_laysEdges_14
    simp (disch := omega) only [ncl, g7, pk_mul, nle, if_neg]
    have hw := wh_inv (b := b_X9_laysEdges_24 (nI w) q1 q2 q3 now (nI i, um)) (fun j u => u.1 = nI j ∧ ∀ i' j', j' < 2 * E → (i' < i ∨ (i' = i ∧ j' < j)) → u.2 (18 * i' + j') = iL (MM x y (sgW w n) i' j')) (fun r => ∀ i' j', j' < 2 * E → i' < i + 1 → r (18 * i' + j') = iL (MM x y (sgW w n) i' j')) (2 * E) (fun j u hj ⟨u3, u4⟩ => ?_) (fun u ⟨u3, u4⟩ => ?_) 0 (nI 0, um) (by omega) ⟨rfl, fun i' j' h1 h2 => ?_⟩
    · obtain ⟨r, v1, v2⟩ := hw
      rw [bd_t v1, nI_add]
      exact ⟨_, rfl, rfl, fun i' j h1 h2 => v2 i' j h2 h1⟩
    · obtain ⟨vi, vm⟩ := u
      dsimp only at u3 u4
      subst u3
      unfold b_X9_laysEdges_24
      simp (disch := omega) only [ncl, g7, pk_mul, nle, if_neg, nI_add]
      rw [m_next hG hi hj, bd_s, m_sign hG hi]
      have e1 : (if (@ite _ (nxt x y i j) (Classical.propDecidable _) (nI 1) (nI 0)) = (0 : Int32) then some (0 : Int64) else some (1 : Int64)) = some (iL (bb x y i j)) := by
        unfold bb
        by_cases h : nxt x y i j
        · rw [if_pos h, if_pos h]; rfl
        · rw [if_neg h, if_neg h]; rfl
      have e2 : (if nI w = (0 : Int32) then some (iL (bb x y i j)) else some (iL (bb x y i j) * (n (i / 2)).toInt64)) = some (iL (MM x y (sgW w n) i j)) := by
        unfold MM sgW
        by_cases h : w = 0
        · subst h; rw [if_pos (by decide), if_pos rfl, Int.mul_one]
        · rw [if_neg (by rw [neq0 (by omega)]; exact h), if_neg h, iL_of, iL_mul]
      rw [e1, bd_s, bd_s, e2, bd_s, ginb (by omega) (by omega)]
      refine ⟨_, rfl, rfl, fun i' j' h1 h2 => ?_⟩
      dsimp only
      rw [updL_at]
      by_cases h : 18 * i' + j' = 18 * i + j
      · obtain rfl : i' = i := by omega
        obtain rfl : j' = j := by omega
        rw [if_pos rfl]
      · rw [if_neg h]
        exact u4 i' j' h1 (by omega)
    · unfold b_X9_laysEdges_24
      simp (disch := omega) only [u3, ncl, g7, pk_mul, nle, if_pos]
      exact ⟨_, rfl, fun i' j' h1 h2 => u4 i' j' h1 (by omega)⟩
    · exact u2 i' j' (by omega) h1
  · unfold b_X9_laysEdges_14
    simp (disch := omega) only [u1, ncl, g7, pk_mul, nle, if_pos]
    exact ⟨_, rfl, u2⟩
theorem c_copyL {b : Int32 × (Nat → Int64) → Option ((Int32 × (Nat → Int64)) ⊕ (Nat → Int64))} {N : Nat} {src : Nat → Int64} (hs : ∀ i u, i < N → b (nI i, u) = some (Sum.inl (nI (i + 1), vp_updL u i (src i)))) (he : ∀ u, b (nI N, u) = some (Sum.inr u)) (u0 : Nat → Int64) : ∃ r, wh b (nI 0, u0) = some r ∧ ∀ k, k < N → r k = src k := by
  refine wh_inv (b := b) (fun i z => z.1 = nI i ∧ ∀ k, k < i → z.2 k = src k) (fun r => ∀ k, k < N → r k = src k) N (fun i z hi ⟨z1, z2⟩ => ?_) (fun z ⟨z1, z2⟩ => ?_) 0 (nI 0, u0) (by omega) ⟨rfl, fun k hk => absurd hk (Nat.not_lt_zero k)⟩
  · obtain ⟨zi, zp⟩ := z
    dsimp only at z1 z2
    subst z1
    rw [hs i zp hi]
    refine ⟨_, rfl, rfl, fun k hk => ?_⟩
    dsimp only
    rw [updL_at]
    by_cases ek : k = i
    · subst ek; rw [if_pos rfl]
    · rw [if_neg ek]; exact z2 k (by omega)
  · obtain ⟨zi, zp⟩ := z
    dsimp only at z1 z2
    subst z1
    rw [he]
    exact ⟨_, rfl, z2⟩
theorem m_goesOn {N : Nat} (hN : N ≤ 18) (q1 q2 q3 : Int32) (mat pow prd : Nat → Int64) (A P : Nat → Nat → Int) (hA : ∀ i j, i < N → j < N → mat (18 * i + j) = iL (A i j)) (hP : ∀ i j, i < N → j < N → pow (18 * i + j) = iL (P i j)) : ∃ r, f_X9_goesOn q1 q2 q3 (nI N) mat pow prd = some r ∧ ∀ i j, i < N → j < N → r.1 (18 * i + j) = iL (mm N P A i j) := by
  unfold f_X9_goesOn
  have hw := wh_inv (b := b_X9_goesOn_2 (nI N) mat pow) (fun i u => u.1 = nI i ∧ ∀ i' j, i' < i → j < N → u.2 (18 * i' + j) = iL (mm N P A i' j)) (fun r => ∀ i j, i < N → j < N → r (18 * i + j) = iL (mm N P A i j)) N (fun i u hi ⟨u1, u2⟩ => ?_) (fun u ⟨u1, u2⟩ => ?_) 0 (nI 0, prd) (by omega) ⟨rfl, fun i j h => absurd h (Nat.not_lt_zero i)⟩
  · obtain ⟨r, v1, v2⟩ := hw
    rw [bd_t v1]
    obtain ⟨r', v3, v4⟩ := c_copyL (b := b_X9_goesOn_94 (nI N) r) (N := 18 * N) (src := r) (fun i u hi => by
      unfold b_X9_goesOn_94
      simp (disch := omega) only [pk_mul, nle, if_neg, nI_add, ginb, ncl]) (fun u => by
      unfold b_X9_goesOn_94
      simp (disch := omega) only [pk_mul, nle, if_pos]) pow
    rw [bd_t v3]
    refine ⟨_, rfl, fun i j hi hj => ?_⟩
    show r' (18 * i + j) = _
    rw [v4 _ (by omega)]
    exact v2 i j hi hj
  · obtain ⟨ui, um⟩ := u
    dsimp only at u1 u2
    subst u1
    unfold b_X9_goesOn_2
    simp (disch := omega) only [nle, if_neg]
    have hw := wh_inv (b := b_X9_goesOn_12 (nI N) mat pow (nI i, um)) (fun j u => u.1 = nI j ∧ ∀ i' j', j' < N → (i' < i ∨ (i' = i ∧ j' < j)) → u.2 (18 * i' + j') = iL (mm N P A i' j')) (fun r => ∀ i' j', j' < N → i' < i + 1 → r (18 * i' + j') = iL (mm N P A i' j')) N (fun j u hj ⟨u3, u4⟩ => ?_) (fun u ⟨u3, u4⟩ => ?_) 0 (nI 0, um) (by omega) ⟨rfl, fun i' j' h1 h2 => u2 i' j' (by omega) h1⟩
    · obtain ⟨r, v1, v2⟩ := hw
      rw [bd_t v1, nI_add]
      exact ⟨_, rfl, rfl, fun i' j h1 h2 => v2 i' j h2 h1⟩
    · obtain ⟨vi, vm⟩ := u
      dsimp only at u3 u4
      subst u3
      unfold b_X9_goesOn_12
      simp (disch := omega) only [nle, if_neg]
      have hw := wh_cnt (b := b_X9_goesOn_25 (nI N) mat pow (nI i, um) (nI j, vm)) (fun k => (nI k, iL (sm k (fun k => P i k * A k j)))) N (r := iL (mm N P A i j)) (fun k hk => by
        unfold b_X9_goesOn_25
        simp (disch := omega) only [pk_mul, nle, if_neg, nI_add, ginb, ncl, nm_s]
        rw [hP i k hi hk, hA k j hk hj, ← iL_mul, ← iL_add]
        rfl) (by
        unfold b_X9_goesOn_25
        simp (disch := omega) only [nle, if_pos]
        rfl) 0 (by omega)
      rw [show (nI 0, (0 : Int64)) = (nI 0, iL (sm 0 (fun k => P i k * A k j))) from rfl, bd_t hw]
      simp (disch := omega) only [pk_mul, nI_add, ginb, ncl]
      refine ⟨_, rfl, rfl, fun i' j' h1 h2 => ?_⟩
      dsimp only
      rw [updL_at]
      by_cases h : 18 * i' + j' = 18 * i + j
      · obtain rfl : i' = i := by omega
        obtain rfl : j' = j := by omega
        rw [if_pos rfl]
      · rw [if_neg h]
        exact u4 i' j' h1 (by omega)
    · obtain ⟨vi, vm⟩ := u
      dsimp only at u3 u4
      subst u3
      unfold b_X9_goesOn_12
      simp (disch := omega) only [nle, if_pos]
      exact ⟨_, rfl, fun i' j' h1 h2 => u4 i' j' h1 (by omega)⟩
  · unfold b_X9_goesOn_2
    simp (disch := omega) only [u1, nle, if_pos]
    exact ⟨_, rfl, u2⟩
/-- the reference's traces -/
noncomputable def rtr (x y : Nat → Nat) (σ : Nat → Int) (E m : Nat) : Int := sm (2 * E) (fun d => mp (2 * E) (MM x y σ) (m - 1) d d)
theorem m_laysTraces (hG : GA v e f s n now 0 a E x y) {w M : Nat} (hw2 : w < 2) (hM : M ≤ 18) (q1 q2 q3 q4 : Int32) (mat pow prd tr : Nat → Int64) : ∃ r, f_X9_laysTraces (nI w) (nI M) q1 q2 q3 q4 now mat pow prd 19 tr = some r ∧ r.1 = nI (2 * E) ∧ ∀ m, 1 ≤ m → m ≤ M → r.2.2.2.2 m = iL (rtr x y (sgW w n) E m) := by
  obtain ⟨g1, g2, g3, g4, g5, g6, g7, g8⟩ := id hG
  unfold f_X9_laysTraces
  obtain ⟨A, w1, w2⟩ := m_laysEdges hG hw2 q1 q2 q3 q4 mat
  rw [bd_t w1]
  obtain ⟨r8, v1, v2⟩ := c_copyL (b := b_X9_laysTraces_8 (nI (2 * E), A)) (N := 18 * (2 * E)) (src := A) (fun i u hi => by
    unfold b_X9_laysTraces_8
    simp (disch := omega) only [pk_mul, nle, if_neg, nI_add, ginb, ncl]) (fun u => by
    unfold b_X9_laysTraces_8
    simp (disch := omega) only [pk_mul, nle, if_pos]) pow
  rw [bd_t v1]
  have hw := wh_inv (b := b_X9_laysTraces_43 (nI M) q1 q2 q3 19 (nI (2 * E), A)) (fun m u => u.1 = nI m ∧ 1 ≤ m ∧ (∀ i j, i < 2 * E → j < 2 * E → u.2.1 (18 * i + j) = iL (mp (2 * E) (MM x y (sgW w n)) (m - 2) i j)) ∧ ∀ k, 1 ≤ k → k < m → u.2.2.2 k = iL (rtr x y (sgW w n) E k)) (fun r => ∀ k, 1 ≤ k → k ≤ M → r.2.2 k = iL (rtr x y (sgW w n) E k)) (M + 1) (fun m u hm ⟨u1, u2, u3, u4⟩ => ?_) (fun u ⟨u1, u2, u3, u4⟩ => ?_) 1 (nI 1, r8, prd, tr) (by omega) ⟨rfl, Nat.le_refl 1, fun i j hi hj => ?_, fun k k1 k2 => absurd k1 (by omega)⟩
  · obtain ⟨r, t1, t2⟩ := hw
    rw [bd_t t1]
    exact ⟨_, rfl, rfl, t2⟩
  · obtain ⟨vm, vp, vq, vt⟩ := u
    dsimp only at u1 u3 u4
    subst u1
    unfold b_X9_laysTraces_43
    simp (disch := omega) only [nlt, if_neg]
    obtain ⟨P, Q, p1, p2⟩ : ∃ P Q, (if nI m ≤ nI 1 then some (vp, vq) else bd (f_X9_goesOn q1 q2 q3 (nI (2 * E)) A vp vq) (fun q_56 => some (q_56.1, q_56.2))) = some (P, Q) ∧ ∀ i j, i < 2 * E → j < 2 * E → P (18 * i + j) = iL (mp (2 * E) (MM x y (sgW w n)) (m - 1) i j) := by
      by_cases h1 : m = 1
      · subst h1
        rw [if_pos (by rw [nle (by omega) (by omega)]; omega)]
        exact ⟨_, _, rfl, u3⟩
      · rw [if_neg (by rw [nle (by omega) (by omega)]; omega)]
        obtain ⟨r, t1, t2⟩ := m_goesOn (N := 2 * E) (by omega) q1 q2 q3 A vp vq _ _ w2 u3
        rw [bd_t t1]
        refine ⟨_, _, rfl, fun i j hi hj => ?_⟩
        rw [t2 i j hi hj, show m - 1 = (m - 2) + 1 by omega]
        rfl
    rw [p1, bd_s, ginb (by omega) (by omega), ncl (by omega)]
    have hw := wh_inv (b := b_X9_laysTraces_67 19 (nI (2 * E), A) (nI m, vp, vq, vt) (P, Q)) (fun d u => u.1 = nI d ∧ (u.2 m = iL (sm d (fun d => mp (2 * E) (MM x y (sgW w n)) (m - 1) d d))) ∧ ∀ k, k ≠ m → u.2 k = vt k) (fun r => r m = iL (rtr x y (sgW w n) E m) ∧ ∀ k, k ≠ m → r k = vt k) (2 * E) (fun d u hd ⟨u5, u6, u7⟩ => ?_) (fun u ⟨u5, u6, u7⟩ => ?_) 0 (nI 0, vp_updL vt m 0) (by omega) ⟨rfl, ?_, fun k hk => ?_⟩
    · obtain ⟨r, t1, t2, t3⟩ := hw
      rw [bd_t t1, nI_add]
      refine ⟨_, rfl, rfl, by omega, fun i j hi hj => ?_, fun k k1 k2 => ?_⟩
      · rw [show m + 1 - 2 = m - 1 by omega]
        exact p2 i j hi hj
      · by_cases h : k = m
        · subst h; exact t2
        · exact (t3 k h).trans (u4 k k1 (by omega))
    · obtain ⟨di, du⟩ := u
      dsimp only at u5 u6 u7
      subst u5
      unfold b_X9_laysTraces_67
      simp (disch := omega) only [nle, if_neg, pk_mul, nI_add, ginb, ncl]
      refine ⟨_, rfl, rfl, ?_, fun k hk => ?_⟩
      · dsimp only
        rw [updL_at, if_pos rfl, u6, p2 d d hd hd, ← iL_add]
        rfl
      · dsimp only
        rw [updL_at, if_neg hk]
        exact u7 k hk
    · unfold b_X9_laysTraces_67
      simp (disch := omega) only [u5, nle, if_pos]
      exact ⟨_, rfl, u6, u7⟩
    · dsimp only
      rw [updL_at, if_pos rfl]; rfl
    · dsimp only
      rw [updL_at, if_neg hk]
  · unfold b_X9_laysTraces_43
    simp (disch := omega) only [u1, nlt, if_pos]
    exact ⟨_, rfl, fun k k1 k2 => u4 k k1 (by omega)⟩
  · show r8 (18 * i + j) = _
    rw [v2 _ (by omega)]
    exact w2 i j hi hj
theorem rt_eq (hG : GA v e f s n now 0 a E x y) (w m : Nat) : rtr x y (sgW w n) E m = rt x y (sgW w n) E E m := tr_eq x y (sgW w n) E (m - 1) (sgW_pm hG w)
