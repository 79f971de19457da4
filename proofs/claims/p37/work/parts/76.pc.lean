theorem nmod {m d : Nat} (hm : m < 2 ^ 31) (h0 : 0 < d) (hd : d < 2 ^ 31) : nI m - nI m / nI d * nI d = nI (m % d) := by
  rw [ndiv hm h0 hd, pk_mul, nsub (Nat.div_mul_le_self m d)]
  congr 1
  have h := Nat.div_add_mod m d
  rw [Nat.mul_comm] at h
  omega
section PRM
variable {v e : Int32} {f s n now : Nat → Int32} {a E : Nat} {x y : Nat → Nat}
theorem tk_s (p : Nat → Int) (d m : Nat) : tk p (d + 1) m = tk p d m + (if d = 0 then 0 else if m % d = 0 then p d else 0) := rfl
theorem tks_s (p ps : Nat → Int) (d m : Nat) : tks p ps (d + 1) m = tks p ps d m + (if d = 0 then 0 else if m % d = 0 then (if m / d % 2 = 0 then p d else ps d) else 0) := rfl
theorem cp_loop (q : (Nat → Int64) × (Nat → Int64) × (Nat → Int64)) (t p : Nat → Int) (hq : ∀ m, 1 ≤ m → m ≤ 18 → q.1 m = iL (t m)) (hp : ∀ m, p m = t m - tk p m m) (pr : Nat → Int64) : ∃ r, wh (b_X7_countPrimitive_7 q) (nI 1, pr) = some r ∧ ∀ m, 1 ≤ m → m ≤ 18 → r m = iL (p m) := by
  refine wh_inv (b := b_X7_countPrimitive_7 q) (fun i z => z.1 = nI i ∧ 1 ≤ i ∧ ∀ m, 1 ≤ m → m < i → z.2 m = iL (p m)) (fun r => ∀ m, 1 ≤ m → m ≤ 18 → r m = iL (p m)) 19 (fun i z hi ⟨z1, z0, z2⟩ => ?_) (fun z ⟨z1, z0, z2⟩ => ?_) 1 (nI 1, pr) (by omega) ⟨rfl, Nat.le_refl 1, fun m h1 h2 => absurd h1 (by omega)⟩
  · obtain ⟨zi, zp⟩ := z
    dsimp only at z1 z2
    subst z1
    unfold b_X7_countPrimitive_7
    simp (disch := omega) only [nlt, if_neg, ginb, ncl]
    have hw := wh_inv (b := b_X7_countPrimitive_27 (nI i, zp)) (fun d u => u.1 = nI d ∧ 1 ≤ d ∧ u.2 i = iL (t i - tk p d i) ∧ ∀ k, k ≠ i → u.2 k = zp k) (fun r => r i = iL (p i) ∧ ∀ k, k ≠ i → r k = zp k) i (fun d u hd ⟨u1, u0, u2, u3⟩ => ?_) (fun u ⟨u1, u0, u2, u3⟩ => ?_) 1 (nI 1, vp_updL zp i (q.1 i)) (by omega) ⟨rfl, Nat.le_refl 1, ?_, fun k hk => ?_⟩
    · obtain ⟨r, w1, w2, w3⟩ := hw
      rw [bd_t w1, nI_add]
      refine ⟨_, rfl, rfl, by omega, fun m h1 h2 => ?_⟩
      dsimp only
      by_cases h : m = i
      · subst h; exact w2
      · rw [w3 m h]; exact z2 m h1 (by omega)
    · obtain ⟨ud, ua⟩ := u
      dsimp only at u1 u2 u3
      subst u1
      have hmd : i % d < 2 ^ 31 := by have := Nat.mod_le i d; omega
      have hg : 0 < d := by omega
      unfold b_X7_countPrimitive_27
      simp (disch := omega) only [nle, if_neg, gnz, nmod, neq0, ginb, ncl, nI_add]
      by_cases h : i % d = 0
      · rw [if_pos h]
        refine ⟨_, rfl, rfl, by omega, ?_, fun k hk => ?_⟩
        · dsimp only
          rw [updL_at, if_pos rfl, u2, u3 d (by omega), z2 d u0 hd, ← iL_sub, tk_s, if_neg (by omega), if_pos h]
          congr 1
          omega
        · dsimp only
          rw [updL_at, if_neg hk]; exact u3 k hk
      · rw [if_neg h]
        refine ⟨_, rfl, rfl, by omega, ?_, u3⟩
        dsimp only
        rw [u2, tk_s, if_neg (by omega), if_neg h, Int.add_zero]
    · unfold b_X7_countPrimitive_27
      simp (disch := omega) only [u1, nle, if_pos]
      exact ⟨_, rfl, by rw [u2, ← hp], u3⟩
    · dsimp only
      rw [updL_at, if_pos rfl, hq i z0 (by omega)]
      congr 1
      show t i = t i - (0 + 0)
      omega
    · dsimp only
      rw [updL_at, if_neg hk]
  · unfold b_X7_countPrimitive_7
    simp (disch := omega) only [z1, nlt, if_pos]
    exact ⟨_, rfl, fun m h1 h2 => z2 m h1 (by omega)⟩
theorem c_countPrimitive (hG : GA v e f s n now 0 a E x y) (cl pr re ar : Nat → Int64) (p : Nat → Int) (hp : ∀ m, p m = tw x y n E 0 m - tk p m m) : ∃ r, f_X7_countPrimitive cl pr re ar v e f s n = some r ∧ ∀ m, 1 ≤ m → m ≤ 18 → r.2.1 m = iL (p m) := by
  unfold f_X7_countPrimitive f_X7_countClosed
  obtain ⟨r, c1, c2⟩ := c_addReturns hG (w := 0) (by omega) re ar cl
  obtain ⟨r2, d1, d2⟩ := cp_loop (r.2.2, r.1, r.2.1) (tw x y n E 0) p c2 hp pr
  rw [bd_t c1, bd_s, bd_t d1]
  exact ⟨_, rfl, d2⟩
theorem cps_loop (q : (Nat → Int64) × (Nat → Int64) × (Nat → Int64) × (Nat → Int64)) (q' : (Nat → Int64) × (Nat → Int64) × (Nat → Int64)) (t p ps : Nat → Int) (hq : ∀ m, 1 ≤ m → m ≤ 18 → q.2.1 m = iL (p m)) (hq' : ∀ m, 1 ≤ m → m ≤ 18 → q'.1 m = iL (t m)) (hp : ∀ m, ps m = t m - tks p ps m m) (pr : Nat → Int64) : ∃ r, wh (b_X7_countPrimitiveSigned_12 q q') (nI 1, pr) = some r ∧ ∀ m, 1 ≤ m → m ≤ 18 → r m = iL (ps m) := by
  refine wh_inv (b := b_X7_countPrimitiveSigned_12 q q') (fun i z => z.1 = nI i ∧ 1 ≤ i ∧ ∀ m, 1 ≤ m → m < i → z.2 m = iL (ps m)) (fun r => ∀ m, 1 ≤ m → m ≤ 18 → r m = iL (ps m)) 19 (fun i z hi ⟨z1, z0, z2⟩ => ?_) (fun z ⟨z1, z0, z2⟩ => ?_) 1 (nI 1, pr) (by omega) ⟨rfl, Nat.le_refl 1, fun m h1 h2 => absurd h1 (by omega)⟩
  · obtain ⟨zi, zp⟩ := z
    dsimp only at z1 z2
    subst z1
    unfold b_X7_countPrimitiveSigned_12
    simp (disch := omega) only [nlt, if_neg, ginb, ncl]
    have hw := wh_inv (b := b_X7_countPrimitiveSigned_32 q (nI i, zp)) (fun d u => u.1 = nI d ∧ 1 ≤ d ∧ u.2 i = iL (t i - tks p ps d i) ∧ ∀ k, k ≠ i → u.2 k = zp k) (fun r => r i = iL (ps i) ∧ ∀ k, k ≠ i → r k = zp k) i (fun d u hd ⟨u1, u0, u2, u3⟩ => ?_) (fun u ⟨u1, u0, u2, u3⟩ => ?_) 1 (nI 1, vp_updL zp i (q'.1 i)) (by omega) ⟨rfl, Nat.le_refl 1, ?_, fun k hk => ?_⟩
    · obtain ⟨r, w1, w2, w3⟩ := hw
      rw [bd_t w1, nI_add]
      refine ⟨_, rfl, rfl, by omega, fun m h1 h2 => ?_⟩
      dsimp only
      by_cases h : m = i
      · subst h; exact w2
      · rw [w3 m h]; exact z2 m h1 (by omega)
    · obtain ⟨ud, ua⟩ := u
      dsimp only at u1 u2 u3
      subst u1
      have hmd : i % d < 2 ^ 31 := by have := Nat.mod_le i d; omega
      have hdd : i / d < 2 ^ 31 := by have := Nat.div_le_self i d; omega
      have hg : 0 < d := by omega
      have e1 : nI i - nI i / nI d * nI d = nI (i % d) := nmod (by omega) hg (by omega)
      have e2 : nI i / nI d = nI (i / d) := ndiv (by omega) hg (by omega)
      have e3 : nI (i / d) - nI (i / d) / nI 2 * nI 2 = nI (i / d % 2) := nmod hdd (by omega) (by omega)
      unfold b_X7_countPrimitiveSigned_32
      dsimp only
      rw [e1, e2, e3]
      simp (disch := omega) only [nle, if_neg, gnz, neq0, ginb, ncl, nI_add]
      by_cases h : i % d = 0
      · rw [if_pos h]
        by_cases h2 : i / d % 2 = 0
        · rw [if_pos h2, bd_s, if_neg (show ¬ (nI 1 : Int32) = 0 by decide), bd_s]
          refine ⟨_, rfl, rfl, by omega, ?_, fun k hk => ?_⟩
          · dsimp only
            rw [updL_at, if_pos rfl, u2, hq d u0 (by omega), ← iL_sub, tks_s, if_neg (by omega), if_pos h, if_pos h2]
            congr 1
            omega
          · dsimp only
            rw [updL_at, if_neg hk]; exact u3 k hk
        · rw [if_neg h2, bd_s, if_pos (show (nI 0 : Int32) = 0 by decide), bd_s]
          refine ⟨_, rfl, rfl, by omega, ?_, fun k hk => ?_⟩
          · dsimp only
            rw [updL_at, if_pos rfl, u2, u3 d (by omega), z2 d u0 hd, ← iL_sub, tks_s, if_neg (by omega), if_pos h, if_neg h2]
            congr 1
            omega
          · dsimp only
            rw [updL_at, if_neg hk]; exact u3 k hk
      · rw [if_neg h]
        refine ⟨_, rfl, rfl, by omega, ?_, u3⟩
        dsimp only
        rw [u2, tks_s, if_neg (by omega), if_neg h, Int.add_zero]
    · unfold b_X7_countPrimitiveSigned_32
      simp (disch := omega) only [u1, nle, if_pos]
      exact ⟨_, rfl, by rw [u2, ← hp], u3⟩
    · dsimp only
      rw [updL_at, if_pos rfl, hq' i z0 (by omega)]
      congr 1
      show t i = t i - (0 + 0)
      omega
    · dsimp only
      rw [updL_at, if_neg hk]
  · unfold b_X7_countPrimitiveSigned_12
    simp (disch := omega) only [z1, nlt, if_pos]
    exact ⟨_, rfl, fun m h1 h2 => z2 m h1 (by omega)⟩
theorem c_countPrimitiveSigned (hG : GA v e f s n now 0 a E x y) (cl cs pr ps' re ar : Nat → Int64) (p ps : Nat → Int) (hp : ∀ m, p m = tw x y n E 0 m - tk p m m) (hps : ∀ m, ps m = tw x y n E 1 m - tks p ps m m) : ∃ r, f_X7_countPrimitiveSigned cl cs pr ps' re ar v e f s n = some r ∧ (∀ m, 1 ≤ m → m ≤ 18 → r.2.2.1 m = iL (p m)) ∧ ∀ m, 1 ≤ m → m ≤ 18 → r.2.2.2.1 m = iL (ps m) := by
  unfold f_X7_countPrimitiveSigned f_X7_countClosedSigned
  obtain ⟨r, c1, c2⟩ := c_countPrimitive hG cl pr re ar p hp
  obtain ⟨r1, c3, c4⟩ := c_addReturns hG (w := 1) (by omega) r.2.2.1 r.2.2.2 cs
  obtain ⟨r2, d1, d2⟩ := cps_loop r (r1.2.2, r1.1, r1.2.1) (tw x y n E 1) p ps c2 c4 hps ps'
  rw [bd_t c1, bd_t c3, bd_s, bd_t d1]
  exact ⟨_, rfl, c2, d2⟩
/-- what the primes are: of both signs -/
def PR (t ts p ps A B : Nat → Int) : Prop := (∀ m, p m = t m - tk p m m) ∧ (∀ m, ps m = ts m - tks p ps m m) ∧ (∀ m, 1 ≤ m → p m = (m : Int) * (A m + B m)) ∧ (∀ m, 1 ≤ m → ps m = (m : Int) * (A m - B m)) ∧ ∀ m, 1 ≤ m → m ≤ 18 → (-4611686018427387904 < p m ∧ p m < 4611686018427387904) ∧ (-4611686018427387904 < ps m ∧ ps m < 4611686018427387904)
theorem pow9 : ∀ m, m < 19 → (9 : Int) ^ m ≤ 150094635296999121 := by decide
theorem exPR (hG : GA v e f s n now 0 a E x y) : ∃ p ps A B, PR (tw x y n E 0) (tw x y n E 1) p ps A B := by
  obtain ⟨p, hp⟩ := exP (tw x y n E 0)
  obtain ⟨ps, hps⟩ := exPs (tw x y n E 1) p
  have hT : ∀ w, (Tz (Ac x y (sgW w n) E) (2 * E)) 0 = 0 ∧ ∀ m, 1 ≤ m → Tz (Ac x y (sgW w n) E) (2 * E) m = tw x y n E w m := fun w => ⟨by rw [Tz_co, if_pos rfl], fun m h1 => by
    unfold tw
    rw [← rt_eq hG, Tz_co, if_neg (by omega)]
    refine sm_congr (fun i hi => ?_)
    obtain ⟨m', rfl⟩ : ∃ m', m = m' + 1 := ⟨m - 1, by omega⟩
    exact mp_congr (Ac_in x y (sgW w n) E) m' i i hi hi⟩
  have hd := prm_div (cc_newton (Ac x y (sgW 0 n) E) (2 * E)) (cc_newton (Ac x y (sgW 1 n) E) (2 * E)) (EP_Ev hG) (cc_0 _ _) (cc_0 _ _) (hT 0) (hT 1) (fun m _ => hp m) (fun m _ => hps m)
  have hd' : ∀ m : Nat, ∃ ab : Int × Int, 1 ≤ m → p m = (m : Int) * (ab.1 + ab.2) ∧ ps m = (m : Int) * (ab.1 - ab.2) := fun m => by
    by_cases h : 1 ≤ m
    · obtain ⟨a, b, h1, h2⟩ := hd m h
      exact ⟨(a, b), fun _ => ⟨h1, h2⟩⟩
    · exact ⟨(0, 0), fun h' => absurd h' h⟩
  obtain ⟨g, hg⟩ := Classical.axiomOfChoice hd'
  have hm : ∀ P : Int, ∀ Q : Int, P ≤ (if P ≤ Q then Q else P) ∧ Q ≤ (if P ≤ Q then Q else P) := fun P Q => by split <;> omega
  have hb := tk_bd (P := fun m => if av (p m) ≤ av (ps m) then av (ps m) else av (p m)) (fun m hm1 => by
    have h1 := tw_bd hG 0 hm1
    have h2 := tw_bd hG 1 hm1
    have h3 : av (tk p m m) ≤ sm m (fun d => if d = 0 then 0 else if av (p d) ≤ av (ps d) then av (ps d) else av (p d)) := by
      unfold tk
      refine Int.le_trans (sm_av _ _) (sm_le (fun d _ => ?_))
      have h4 := hm (av (p d)) (av (ps d))
      have h5 := av_0 (p d)
      by_cases h0 : d = 0
      · rw [if_pos h0, if_pos h0]; decide
      · rw [if_neg h0, if_neg h0]
        by_cases h6 : m % d = 0
        · rw [if_pos h6]; exact h4.1
        · rw [if_neg h6]
          show (0 : Int) ≤ _
          omega
    have h3' : av (tks p ps m m) ≤ sm m (fun d => if d = 0 then 0 else if av (p d) ≤ av (ps d) then av (ps d) else av (p d)) := by
      unfold tks
      refine Int.le_trans (sm_av _ _) (sm_le (fun d _ => ?_))
      have h4 := hm (av (p d)) (av (ps d))
      have h5 := av_0 (p d)
      by_cases h0 : d = 0
      · rw [if_pos h0, if_pos h0]; decide
      · rw [if_neg h0, if_neg h0]
        by_cases h6 : m % d = 0
        · rw [if_pos h6]
          by_cases h7 : m / d % 2 = 0
          · rw [if_pos h7]; exact h4.1
          · rw [if_neg h7]; exact h4.2
        · rw [if_neg h6]
          show (0 : Int) ≤ _
          omega
    have h8 : av (p m) ≤ av (tw x y n E 0 m) + av (tk p m m) := by
      rw [hp m]
      have := av_add (tw x y n E 0 m) (- tk p m m)
      have e : av (- tk p m m) = av (tk p m m) := by unfold av; split <;> split <;> omega
      rw [e, ← Int.sub_eq_add_neg] at this
      exact this
    have h9 : av (ps m) ≤ av (tw x y n E 1 m) + av (tks p ps m m) := by
      rw [hps m]
      have := av_add (tw x y n E 1 m) (- tks p ps m m)
      have e : av (- tks p ps m m) = av (tks p ps m m) := by unfold av; split <;> split <;> omega
      rw [e, ← Int.sub_eq_add_neg] at this
      exact this
    split <;> omega)
  refine ⟨p, ps, fun m => (g m).1, fun m => (g m).2, hp, hps, fun m h => (hg m h).1, fun m h => (hg m h).2, fun m h1 h2 => ?_⟩
  have h3 := (hb m m (Nat.le_refl m)).2 h1
  have h4 := hm (av (p m)) (av (ps m))
  have h5 := pow9 m (by omega)
  have h6 := av_le (p m)
  have h7 := av_le (ps m)
  omega
end PRM
