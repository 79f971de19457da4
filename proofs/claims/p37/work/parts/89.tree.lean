theorem sh_512 : ∀ t, t < 512 → ∀ v, v < 9 → ((nI t >>> (nI v &&& 31)) &&& nI 1) = b2 (bit t v) := by decide +kernel
theorem bc_512 : ∀ t, t < 512 → f_J6_bitCount_0f7a4 (nI t) = some (nI (cd (bit t) 9)) := by decide +kernel
theorem sh_one10 : ∀ v, v < 10 → (nI 1 <<< (nI v &&& 31)) = nI (2 ^ v) := by decide +kernel
theorem Dk_neg (N : Nat) (A : Nat → Nat → Int) : ∀ k S, Dk N (fun i j => - A i j) k S = (if k % 2 = 0 then 1 else -1) * Dk N A k S := by
  intro k
  induction k with
  | zero => intro S; rw [if_pos rfl, Int.one_mul]; rfl
  | succ k ih =>
    intro S
    show Lw N (fun j => - A k j) (Dk N (fun i j => - A i j) k) S = _ * Lw N (A k) (Dk N A k) S
    unfold Lw
    rw [← sR_mul]
    refine sR_congr (fun c _ => ?_)
    by_cases h : S c = true
    · rw [if_pos h, if_pos h, ih]
      by_cases h2 : k % 2 = 0
      · rw [if_pos h2, if_neg (by omega)]; grind
      · rw [if_neg h2, if_pos (by omega)]; grind
    · rw [if_neg h, if_neg h, Int.mul_zero]
theorem in1_sy (a b : Nat) : in1 (a = b) = in1 (b = a) := by
  by_cases h : a = b
  · rw [in1_t h, in1_t h.symm]
  · rw [in1_f h, in1_f (fun k => h k.symm)]
theorem lapG_sum (x y : Nat → Nat) (E : Nat) (g : Nat → Nat) (i j : Nat) : lapG x y E g E i j = sm E (fun k => gm g (x k) (y k) i * gm g (x k) (y k) j) := by
  have h : ∀ d, lapG x y E g d i j = sm d (fun l => (fun k => gm g (x k) (y k) i * gm g (x k) (y k) j) (E - 1 - l)) := by
    intro d
    induction d with
    | zero => rfl
    | succ d ih =>
      show lapG x y E g d i j + _ = sm d _ + _
      rw [ih]
  rw [h E]
  cases E with
  | zero => rfl
  | succ E' => exact sm_rev E' (fun k => gm g (x k) (y k) i * gm g (x k) (y k) j)
section TREE
variable {v e : Int32} {f s n now : Nat → Int32} {a E : Nat} {x y : Nat → Nat}
def lpk (x y : Nat → Nat) (k i j : Nat) : Int := sm k (fun e => in1 (tl x y e = i) * (in1 (tl x y e = j) - in1 (hd x y e = j)))
theorem lpk_lap (x y : Nat → Nat) (E i j : Nat) : lpk x y (2 * E) i j = lapG x y E (fun k => k) E i j := by
  rw [lapG_sum]
  unfold lpk
  rw [sm_two]
  refine sm_congr (fun k _ => ?_)
  have a1 : tl x y (2 * k) = x k := by unfold tl; rw [if_pos (by omega), show 2 * k / 2 = k by omega]
  have a2 : hd x y (2 * k) = y k := by unfold hd; rw [if_pos (by omega), show 2 * k / 2 = k by omega]
  have a3 : tl x y (2 * k + 1) = y k := by unfold tl; rw [if_neg (by omega), show (2 * k + 1) / 2 = k by omega]
  have a4 : hd x y (2 * k + 1) = x k := by unfold hd; rw [if_neg (by omega), show (2 * k + 1) / 2 = k by omega]
  rw [a1, a2, a3, a4]
  unfold gm
  rw [in1_sy i, in1_sy i, in1_sy j, in1_sy j]
  grind
theorem m_laysTrees (hG : GA v e f s n now 0 a E x y) (q1 q2 q3 q4 : Int32) (mat : Nat → Int64) : ∃ r, f_X9_laysTrees q1 q2 q3 q4 now mat = some (nI (a - 1), r) ∧ ∀ i j, i < a → j < a → r (18 * i + j) = iL (lapG x y E (fun k => k) E i j) := by
  obtain ⟨g1, g2, g3, g4, g5, g6, g7, g8⟩ := id hG
  rw [Nat.zero_add] at g7
  unfold f_X9_laysTrees
  simp (disch := omega) only [ginb, ncl, g6, nsub]
  obtain ⟨r14, w1, w2⟩ := c_copyL (b := b_X9_laysTrees_14) (N := 324) (src := fun _ => 0) (fun i u hi => by
    unfold b_X9_laysTrees_14
    simp (disch := omega) only [nle, if_neg, nI_add, ginb, ncl]) (fun u => by
    unfold b_X9_laysTrees_14
    simp (disch := omega) only [nle, if_pos]) mat
  rw [bd_t w1]
  have hw := wh_inv (b := b_X9_laysTrees_36 q1 q2 q3 now) (fun k u => u.1 = nI k ∧ ∀ i j, i < a → j < a → u.2 (18 * i + j) = iL (lpk x y k i j)) (fun r => ∀ i j, i < a → j < a → r (18 * i + j) = iL (lapG x y E (fun k => k) E i j)) (2 * E) (fun k u hk ⟨u1, u2⟩ => ?_) (fun u ⟨u1, u2⟩ => ?_) 0 (nI 0, r14) (by omega) ⟨rfl, fun i j hi hj => ?_⟩
  · obtain ⟨r, v1, v2⟩ := hw
    rw [bd_t v1]
    exact ⟨_, rfl, v2⟩
  · obtain ⟨ui, um⟩ := u
    dsimp only at u1 u2
    subst u1
    have t1 := tl_lt hG hk
    have t2 := hd_lt hG hk
    unfold b_X9_laysTrees_36
    simp (disch := omega) only [ginb, ncl, g7, pk_mul, nle, if_neg, (m_end hG hk).1, (m_end hG hk).2, bd_s, nI_add]
    refine ⟨_, rfl, rfl, fun i j hi hj => ?_⟩
    dsimp only
    rw [updL_at, updL_at, updL_at]
    have es : lpk x y (k + 1) i j = lpk x y k i j + in1 (tl x y k = i) * (in1 (tl x y k = j) - in1 (hd x y k = j)) := rfl
    by_cases h1 : 18 * i + j = 18 * tl x y k + hd x y k
    · have e1 : tl x y k = i := by omega
      have e2 : hd x y k = j := by omega
      rw [if_pos h1, ← h1, es, in1_t e1, in1_t e2]
      by_cases h2 : 18 * i + j = 18 * tl x y k + tl x y k
      · rw [if_pos h2, ← h2, u2 i j hi hj, in1_t (show tl x y k = j by omega)]
        show iL _ + iL 1 - iL 1 = _
        rw [← iL_add, ← iL_sub]
        congr 1
        omega
      · rw [if_neg h2, u2 i j hi hj, in1_f (show ¬ tl x y k = j by omega)]
        show iL _ - iL 1 = _
        rw [← iL_sub]
        congr 1
    · rw [if_neg h1]
      by_cases h2 : 18 * i + j = 18 * tl x y k + tl x y k
      · rw [if_pos h2, ← h2, u2 i j hi hj, es, in1_t (show tl x y k = i by omega), in1_t (show tl x y k = j by omega), in1_f (show ¬ hd x y k = j by omega)]
        show iL _ + iL 1 = _
        rw [← iL_add]
        congr 1
      · rw [if_neg h2, u2 i j hi hj, es]
        by_cases h3 : tl x y k = i
        · rw [in1_f (show ¬ tl x y k = j by omega), in1_f (show ¬ hd x y k = j by omega)]
          congr 1
          omega
        · rw [in1_f h3]
          congr 1
          omega
  · unfold b_X9_laysTrees_36
    simp (disch := omega) only [ginb, ncl, g7, pk_mul, u1, nle, if_pos]
    refine ⟨_, rfl, fun i j hi hj => ?_⟩
    rw [u2 i j hi hj, lpk_lap]
  · show r14 (18 * i + j) = _
    rw [w2 _ (by omega)]
    rfl
theorem c_isForest (hG : GA v e f s n now 0 a E x y) {t : Nat} (ht : t < 512) (ar sr : Nat → Int32) : ∃ r, f_X3_isForest (nI t) ar sr v e f s n = some r ∧ r.1 = if fs x y E E (fun k => k) t = true then nI 1 else nI 0 := by
  obtain ⟨h1, h2, h3, h4, h5, h6, h7, h8⟩ := id hG
  unfold f_X3_isForest
  obtain ⟨⟨qa, qs⟩, q1, q2⟩ := c_separate ar sr
  rw [bd_t q1]
  dsimp only at q2 ⊢
  have key : ∀ j i : Nat, i + j = E → ∀ (ga sa : Nat → Int32) (g : Nat → Nat) (d : Nat → Bool), US ga sa g d →
      ∃ r, wh (b_X3_isForest_6 (nI t) v e f s n) (nI i, ga, sa) = some r ∧ ((fs x y E j g (t / 2 ^ i) = true ∧ ∃ u w, r = .inr (u, w)) ∨ (fs x y E j g (t / 2 ^ i) = false ∧ ∃ u w, r = .inl (u, w))) := by
    intro j
    induction j with
    | zero =>
      intro i hi ga sa g d hU
      have e1 : i = E := by omega
      subst e1
      refine ⟨.inr (ga, sa), wh_inr ?_, Or.inl ⟨rfl, _, _, rfl⟩⟩
      unfold b_X3_isForest_6
      simp (disch := omega) only [h5, nle, if_pos]
    | succ j ih =>
      intro i hi ga sa g d hU
      have hlt : i < E := by omega
      have hk : E - 1 - j = i := by omega
      have hp : t / 2 ^ (i + 1) = t / 2 ^ i / 2 := by rw [Nat.pow_succ, Nat.div_div_eq_div_mul]
      have hb : bit t i = decide (t / 2 ^ i % 2 = 1) := Nat.testBit_eq_decide_div_mod_eq
      have hfs : fs x y E (j + 1) g (t / 2 ^ i) = if t / 2 ^ i % 2 = 1 then (if g (x i) = g (y i) then false else fs x y E j (ug g (x i) (y i)) (t / 2 ^ i / 2)) else fs x y E j g (t / 2 ^ i / 2) := by
        show (if t / 2 ^ i % 2 = 1 then (if g (x (E - 1 - j)) = g (y (E - 1 - j)) then false else fs x y E j (ug g (x (E - 1 - j)) (y (E - 1 - j))) (t / 2 ^ i / 2)) else fs x y E j g (t / 2 ^ i / 2)) = _
        rw [hk]
      have hsh := sh_512 t ht i (by omega)
      have hne : ¬ e ≤ nI i := by rw [h5, nle (by omega) (by omega)]; omega
      by_cases hc : t / 2 ^ i % 2 = 1
      · rw [decide_eq_true hc] at hb
        rw [if_pos hc] at hfs
        obtain ⟨⟨ur, ua, us⟩, u1, u2, u3⟩ := c_unite hG hU hlt
        dsimp only at u2 u3
        by_cases hq : g (x i) = g (y i)
        · rw [if_pos hq] at u2 hfs
          refine ⟨.inl (ua, us), wh_inr ?_, Or.inr ⟨hfs, _, _, rfl⟩⟩
          unfold b_X3_isForest_6
          dsimp only
          rw [if_neg hne, hsh, hb, if_pos (show b2 true = nI 1 from rfl), bd_s, if_neg (show ¬ (nI 1 : Int32) = 0 by decide), bd_t u1]
          dsimp only
          rw [u2, if_pos (by decide)]
        · rw [if_neg hq] at u2 hfs
          obtain ⟨r, r1, r2⟩ := ih (i + 1) (by omega) ua us _ _ u3
          rw [hp] at r2
          refine ⟨r, wh_inl ?_ r1, by rw [hfs]; exact r2⟩
          unfold b_X3_isForest_6
          dsimp only
          rw [if_neg hne, hsh, hb, if_pos (show b2 true = nI 1 from rfl), bd_s, if_neg (show ¬ (nI 1 : Int32) = 0 by decide), bd_t u1]
          dsimp only
          rw [u2, if_neg (by decide), nI_add]
      · rw [decide_eq_false hc] at hb
        rw [if_neg hc] at hfs
        obtain ⟨r, r1, r2⟩ := ih (i + 1) (by omega) ga sa g d hU
        rw [hp] at r2
        refine ⟨r, wh_inl ?_ r1, by rw [hfs]; exact r2⟩
        unfold b_X3_isForest_6
        dsimp only
        rw [if_neg hne, hsh, hb, if_neg (show ¬ b2 false = nI 1 by decide), bd_s, if_pos (show (nI 0 : Int32) = 0 by decide), nI_add]
  obtain ⟨r, r1, r2⟩ := key E 0 (by omega) qa qs _ _ q2
  rw [Nat.pow_zero, Nat.div_one] at r2
  rw [bd_t r1]
  rcases r2 with ⟨ho, u, w, rfl⟩ | ⟨ho, u, w, rfl⟩
  · rw [if_pos ho]; exact ⟨_, rfl, rfl⟩
  · rw [if_neg (by rw [ho]; decide)]; exact ⟨_, rfl, rfl⟩
theorem cd_img_id (a : Nat) : cd (img a (fun k => k)) a = a := by
  have : ∀ N, N ≤ a → cd (img a (fun k => k)) N = N := by
    intro N
    induction N with
    | zero => intro _; rfl
    | succ n ih =>
      intro h
      show cd (img a (fun k => k)) n + (if img a (fun k => k) n = true then 1 else 0) = n + 1
      rw [ih (by omega), if_pos (img_t.mpr ⟨n, by omega, rfl⟩)]
  exact this a (Nat.le_refl a)
theorem c_countTrees (hG : GA v e f s n now 0 a E x y) (ar sr : Nat → Int32) : ∃ (r : Int32 × (Nat → Int32) × (Nat → Int32)) (c : Nat), f_X3_countTrees ar sr v e f s n = some r ∧ r.1 = nI c ∧ (c : Int) = sm (2 ^ E) (tre x y E a E (fun k => k)) := by
  obtain ⟨h1, h2, h3, h4, h5, h6, h7, h8⟩ := id hG
  have hp : 2 ^ E ≤ 512 := Nat.pow_le_pow_right (n := 2) (by omega) h3
  have hone : (nI 1 <<< (e &&& 31)) = nI (2 ^ E) := by rw [h5]; exact sh_one10 E (by omega)
  have hvm : v - nI 1 = nI (a - 1) := by rw [h4]; exact nsub h1
  unfold f_X3_countTrees
  have hw := wh_inv (b := b_X3_countTrees_4 v e f s n) (fun t z => z.1 = nI t ∧ ∃ c : Nat, c ≤ t ∧ z.2.1 = nI c ∧ (c : Int) = sm t (tre x y E a E (fun k => k))) (fun r => ∃ c : Nat, r.1 = nI c ∧ (c : Int) = sm (2 ^ E) (tre x y E a E (fun k => k))) (2 ^ E) (fun t z ht ⟨z1, c, z2, z3, z4⟩ => ?_) (fun z ⟨z1, c, z2, z3, z4⟩ => ?_) 0 (nI 0, nI 0, ar, sr) (Nat.zero_le _) ⟨rfl, 0, Nat.le_refl 0, rfl, rfl⟩
  · obtain ⟨r, w1, c, w2, w3⟩ := hw
    rw [bd_t w1]
    exact ⟨_, c, rfl, w2, w3⟩
  · obtain ⟨zt, zc, za, zs⟩ := z
    dsimp only at z1 z3
    subst z1 z3
    have hcd : cd (bit t) 9 = cd (bit t) E := by
      have := cd_hi ht (9 - E)
      rw [show E + (9 - E) = 9 by omega] at this
      exact this
    have hcb := cd_le (bit t) E
    have hs : sm (t + 1) (tre x y E a E (fun k => k)) = c + tre x y E a E (fun k => k) t := by rw [z4]; rfl
    have htr : tre x y E a E (fun k => k) t = if fs x y E E (fun k => k) t = true ∧ cd (bit t) E + 1 = a then 1 else 0 := by
      unfold tre
      rw [cd_img_id]
    unfold b_X3_countTrees_4
    dsimp only
    rw [hone, if_neg (by rw [nle (by omega) (by omega)]; omega), bc_512 t (by omega), bd_s, hcd, hvm]
    by_cases hc : cd (bit t) E = a - 1
    · obtain ⟨⟨q0, qa, qs⟩, q1, q2⟩ := c_isForest hG (show t < 512 by omega) za zs
      dsimp only at q2
      rw [if_pos (show nI (cd (bit t) E) = nI (a - 1) by rw [hc]), bd_t q1]
      dsimp only
      by_cases hf : fs x y E E (fun k => k) t = true
      · rw [q2, if_pos hf, if_neg (by decide), nI_add, nI_add]
        refine ⟨_, rfl, rfl, c + 1, by omega, rfl, ?_⟩
        rw [hs, htr, if_pos ⟨hf, by omega⟩]; omega
      · rw [q2, if_neg hf, if_pos (by decide), nI_add]
        refine ⟨_, rfl, rfl, c, by omega, rfl, ?_⟩
        rw [hs, htr, if_neg (fun q => hf q.1)]; omega
    · rw [if_neg (show ¬ nI (cd (bit t) E) = nI (a - 1) by rw [neq (by omega) (by omega)]; exact hc), nI_add]
      refine ⟨_, rfl, rfl, c, by omega, rfl, ?_⟩
      rw [hs, htr, if_neg (fun q => by omega)]; omega
  · obtain ⟨zt, zc, za, zs⟩ := z
    dsimp only at z1 z3
    subst z1 z3
    unfold b_X3_countTrees_4
    dsimp only
    rw [hone, if_pos (by rw [nle (by omega) (by omega)]; omega)]
    exact ⟨_, rfl, c, rfl, z4⟩
end TREE
theorem iL_32 (c : Nat) : (iL (c : Int)).toInt32 = nI c := by
  unfold iL
  rw [Int64.toInt32_ofInt]
  rfl
theorem pr_spanningTrees : Pr_spanningTrees := by
  intro I J K L C Mm hI
  obtain ⟨hg, hh, ht⟩ := id hI
  obtain ⟨a, E, x, y, hG⟩ := gr_GA hg
  have ga := hG.2.1
  obtain ⟨m, hm⟩ : ∃ m, a = m + 1 := ⟨a - 1, by have := hG.1; omega⟩
  subst hm
  obtain ⟨r, c, c1, c2, c3⟩ := c_countTrees hG (I 7) (I 8)
  obtain ⟨r2, d1, d2⟩ := m_laysTrees hG (K 11) (K 12) (K 13) (K 14) (J 9)
  obtain ⟨r3, d3, d4⟩ := m_laysPoly2 (N := m) (by omega) (K 11) (K 12) (K 13) r2 (J 12) (J 13) (J 14) (J 15) (J 16) (lapG x y E (fun k => k) E) (fun i j hi hj => d2 i j (by omega) (by omega))
  have hdet : (c : Int) = dt m (lapG x y E (fun k => k) E) m := by
    rw [c3, mtt (fun k hk => ⟨(hG.2.2.2.2.2.2.2 k hk).1, (hG.2.2.2.2.2.2.2 k hk).2.1⟩)]
  have htop : cc (lapG x y E (fun k => k) E) m m = (if m % 2 = 0 then 1 else -1) * (c : Int) := by
    rw [cc_D m _ m (Nat.le_refl m), Dk_top, Dk_neg, hdet]
    rfl
  unfold f_X8_spanningTrees f_X9_spanningTrees
  rw [bd_t c1, bd_t d1]
  rw [show m + 1 - 1 = m from rfl, bd_t d3]
  simp (disch := omega) only [ginb, ncl, nm_s]
  rw [nmod (by omega) (by omega) (by omega), d4 m (by omega), htop]
  by_cases h : m % 2 = 0
  · rw [if_pos (show nI (m % 2) = 0 by rw [h]; rfl), if_pos h, Int.one_mul, iL_32]
    exact ⟨_, _, rfl, rfl, c2, hg, hh, ht⟩
  · rw [if_neg (show ¬ nI (m % 2) = 0 by rw [neq0 (by omega)]; exact h), if_neg h, ← iL_neg, show -(-1 * (c : Int)) = c by omega, iL_32]
    exact ⟨_, _, rfl, rfl, c2, hg, hh, ht⟩
