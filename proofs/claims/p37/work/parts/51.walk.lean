theorem c_fill (c : Int64) {n : Nat} (hn : n < 2 ^ 30) (a : Nat → Int64) : ∃ r, f_J7_fill_d0a16 c n a = some r ∧ ∀ k, k < n → r k = c := by
  unfold f_J7_fill_d0a16
  rw [nm_s]
  have hw := wh_inv (b := b_J7_fill_d0a16_6 c n (nI n)) (fun i z => z.1 = nI i ∧ ∀ k, k < i → z.2 k = c) (fun r => ∀ k, k < n → r k = c) n (fun i z hi ⟨z1, z2⟩ => ?_) (fun z ⟨z1, z2⟩ => ?_) 0 (nI 0, a) (by omega) ⟨rfl, fun k hk => absurd hk (Nat.not_lt_zero k)⟩
  · obtain ⟨r, w1, w2⟩ := hw
    exact ⟨r, by rw [bd_t w1], w2⟩
  · obtain ⟨zi, zp⟩ := z
    dsimp only at z1 z2
    subst z1
    unfold b_J7_fill_d0a16_6
    simp (disch := omega) only [nle, if_neg, nI_add, ginb, ncl]
    refine ⟨_, rfl, rfl, fun k hk => ?_⟩
    dsimp only
    rw [updL_at]
    by_cases ek : k = i
    · rw [if_pos ek]
    · rw [if_neg ek]; exact z2 k (by omega)
  · unfold b_J7_fill_d0a16_6
    simp (disch := omega) only [z1, nle, if_pos]
    exact ⟨_, rfl, z2⟩
variable {v e : Int32} {f s n now : Nat → Int32} {a E : Nat} {x y : Nat → Nat}
/-- the weight that a step of the class lays on -/
def sgW (w : Nat) (n : Nat → Int32) (k : Nat) : Int := if w = 0 then 1 else (n k).toInt
theorem sgW_pm (hG : GA v e f s n now 0 a E x y) (w : Nat) : ∀ k, k < E → sgW w n k = 1 ∨ sgW w n k = -1 := by
  intro k hk
  unfold sgW
  by_cases h : w = 0
  · rw [if_pos h]; exact Or.inl rfl
  · rw [if_neg h]
    rcases (hG.2.2.2.2.2.2.2 k hk).2.2.2.2.2.2.2.1 with h | h
    · rw [h]; exact Or.inl (by decide)
    · rw [h]; exact Or.inr (by decide)
theorem c_goOn (hG : GA v e f s n now 0 a E x y) {w : Nat} (hw2 : w < 2) (reached arrived : Nat → Int64) (z : Nat → Int) (hz : ∀ d, d < 2 * E → reached d = iL (z d)) : ∃ r, f_X7_goOn (nI w) reached arrived v e f s n = some r ∧ ∀ d, d < 2 * E → r.1 d = iL (sm (2 * E) (fun k => z k * TT x y (sgW w n) k d)) := by
  obtain ⟨g1, g2, g3, g4, g5, g6, g7, g8⟩ := id hG
  unfold f_X7_goOn
  obtain ⟨ar, w1, w2⟩ := c_fill (0 : Int64) (n := 6) (by omega) arrived
  rw [bd_t w1]
  have hw := wh_inv (b := b_X7_goOn_10 reached v e f s) (fun i u => u.1 = nI i ∧ ∀ t, t < 6 → u.2 t = iL (sm i (fun d => if hd x y d = t then z d else 0))) (fun r => ∀ t, t < 6 → r t = iL (sm (2 * E) (fun d => if hd x y d = t then z d else 0))) (2 * E) (fun i u hi ⟨u1, u2⟩ => ?_) (fun u ⟨u1, u2⟩ => ?_) 0 (nI 0, ar) (by omega) ⟨rfl, fun t ht => ?_⟩
  · obtain ⟨A, v1, v2⟩ := hw
    rw [bd_t v1]
    have hw := wh_inv (b := b_X7_goOn_47 (nI w) v e f s n A) (fun i u => u.1 = nI i ∧ ∀ d, d < 2 * E → u.2 d = if d < 2 * i then iL (sgW w n (d / 2) * (sm (2 * E) (fun d' => if hd x y d' = tl x y d then z d' else 0) - z (d ^^^ 1))) else iL (z d)) (fun r => ∀ d, d < 2 * E → r d = iL (sgW w n (d / 2) * (sm (2 * E) (fun d' => if hd x y d' = tl x y d then z d' else 0) - z (d ^^^ 1)))) E (fun i u hi ⟨u1, u2⟩ => ?_) (fun u ⟨u1, u2⟩ => ?_) 0 (nI 0, reached) (by omega) ⟨rfl, fun d hd => ?_⟩
    · obtain ⟨r, q1, q2⟩ := hw
      rw [bd_t q1]
      refine ⟨_, rfl, fun d hd' => ?_⟩
      show r d = _
      rw [q2 d hd']
      congr 1
      have hx : d ^^^ 1 < 2 * E := by rw [xor1]; split <;> omega
      have e1 : z (d ^^^ 1) = sm (2 * E) (fun k => if k = d ^^^ 1 then z k else 0) := by
        rw [sm_one hx (fun i _ hi => if_neg hi), if_pos rfl]
      rw [e1, ← sm_sub, ← sm_mul]
      refine sm_congr (fun k hk => ?_)
      show _ = z k * (sgW w n (d / 2) * bb x y k d)
      rw [bb_sub]
      by_cases h1 : hd x y k = tl x y d <;> by_cases h2 : k = d ^^^ 1 <;> simp only [h1, h2, if_pos, if_neg, if_true, if_false] <;> grind
    · obtain ⟨ui, up⟩ := u
      dsimp only at u1 u2
      subst u1
      have t1 : tl x y (2 * i) < a := tl_lt hG (by omega)
      have t2 : tl x y (2 * i + 1) < a := tl_lt hG (by omega)
      have p1 := u2 (2 * i) (by omega)
      have p2 := u2 (2 * i + 1) (by omega)
      rw [if_neg (by omega)] at p1 p2
      have hsig : (if nI w = (0 : Int32) then some (1 : Int64) else some (n i).toInt64) = some (iL (sgW w n i)) := by
        unfold sgW
        by_cases h : w = 0
        · subst h; rfl
        · rw [if_neg (by rw [neq0 (by omega)]; exact h), if_neg h, iL_of]
      unfold b_X7_goOn_47
      simp (disch := omega) only [g5, nle, if_neg, pk_mul, nI_add, nm_s, ginb, ncl]
      rw [← g5, hsig, bd_s, c_start hG (show 2 * i < 2 * E by omega), c_start hG (show 2 * i + 1 < 2 * E by omega)]
      simp (disch := omega) only [bd_s, nm_s, ginb, ncl, p1, p2, v2]
      refine ⟨_, rfl, rfl, fun d hd' => ?_⟩
      dsimp only
      rw [updL_at, updL_at]
      by_cases h1 : d = 2 * i + 1
      · rw [if_pos h1, if_pos (by omega), h1, xor1_odd, show (2 * i + 1) / 2 = i by omega, ← iL_sub, ← iL_mul]
      · by_cases h2 : d = 2 * i
        · rw [if_neg h1, if_pos h2, if_pos (by omega), h2, xor1_even, show (2 * i) / 2 = i by omega, ← iL_sub, ← iL_mul]
        · rw [if_neg h1, if_neg h2, u2 d hd']
          by_cases h3 : d < 2 * i
          · rw [if_pos h3, if_pos (by omega)]
          · rw [if_neg h3, if_neg (by omega)]
    · unfold b_X7_goOn_47
      simp (disch := omega) only [g5, u1, nle, if_pos]
      refine ⟨_, rfl, fun d hd' => ?_⟩
      rw [u2 d hd', if_pos (by omega)]
    · rw [if_neg (by omega)]; exact hz d hd
  · obtain ⟨ui, up⟩ := u
    dsimp only at u1 u2
    subst u1
    have t1 : hd x y i < a := hd_lt hG (by omega)
    unfold b_X7_goOn_10
    rw [c_end hG hi, g5]
    simp (disch := omega) only [nle, if_neg, pk_mul, nI_add, nm_s, bd_s, ginb, ncl, u2, hz]
    refine ⟨_, rfl, rfl, fun t ht => ?_⟩
    dsimp only
    rw [updL_at]
    by_cases h : t = hd x y i
    · subst h
      rw [if_pos rfl, ← iL_add]
      congr 1
      show _ = sm i _ + (if hd x y i = hd x y i then z i else 0)
      rw [if_pos rfl]
    · rw [if_neg h, u2 t ht]
      congr 1
      show _ = sm i _ + (if hd x y i = t then z i else 0)
      rw [if_neg (fun k => h k.symm)]; omega
  · unfold b_X7_goOn_10
    simp (disch := omega) only [g5, u1, nle, if_pos, pk_mul]
    exact ⟨_, rfl, u2⟩
  · exact w2 t ht
