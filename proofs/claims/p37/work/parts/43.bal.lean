theorem pr_components : Pr_components := by
  intro I J K L C Mm hI
  obtain ⟨a, E, x, y, hG⟩ := gr_GA hI.1
  obtain ⟨⟨q0, qa, qs⟩, q1, q2⟩ := c_countGroups hG (I 7) (I 8)
  obtain ⟨⟨r0, rp⟩, r1, r2⟩ := m_partsNow hG (I 14) (q1 := K 11) (q2 := K 12) (q3 := K 13) (q4 := K 14)
  dsimp only at q2 r2
  refine ⟨(q0, qa, qs), (r0, rp), ?_, ?_, q2.trans r2.symm, hI⟩
  · unfold f_X8_components; rw [bd_t q1]
  · unfold f_X9_components; rw [bd_t r1]
theorem pr_rank : Pr_rank := by
  intro I J K L C Mm hI
  obtain ⟨a, E, x, y, hG⟩ := gr_GA hI.1
  obtain ⟨⟨q0, qa, qs⟩, q1, q2⟩ := c_countGroups hG (I 7) (I 8)
  obtain ⟨⟨r0, rp⟩, r1, r2⟩ := m_partsNow hG (I 14) (q1 := K 11) (q2 := K 12) (q3 := K 13) (q4 := K 14)
  dsimp only at q2 r2
  have h0 : I 10 0 = K 0 := hG.2.2.2.2.2.1.trans hG.2.2.2.1.symm
  have h1 : I 10 1 = K 1 := hG.2.2.2.2.2.2.1.trans hG.2.2.2.2.1.symm
  refine ⟨(K 1 - K 0 + q0, qa, qs), (K 1 - K 0 + r0, rp), ?_, ?_, ?_, hI⟩
  · unfold f_X8_rank; rw [bd_t q1]
  · unfold f_X9_rank
    simp (disch := omega) only [ginb, ncl, h0, h1]
    rw [bd_t r1]
  · rw [q2, r2]
section BAL
variable {v e : Int32} {f s n now : Nat → Int32} {a E : Nat} {x y : Nat → Nat}
/-- the classes' answer: no edge within a group is at odds with the sides -/
def okK (x y : Nat → Nat) (c : Nat → Bool) (E : Nat) : Prop := ∀ k, k < E → gK x y k (x k) = gK x y k (y k) → ((dK x y c k (x k) ^^ dK x y c k (y k)) ^^ c k) = false
theorem c_canDivide (h : GA v e f s n now 0 a E x y) (ar sr : Nat → Int32) : ∃ r, f_X3_canDivide ar sr v e f s n = some r ∧ r.1 = @ite _ (okK x y (cr n) E) (Classical.propDecidable _) (nI 1) (nI 0) := by
  obtain ⟨h1, h2, h3, h4, h5, h6, h7, h8⟩ := id h
  unfold f_X3_canDivide
  obtain ⟨⟨qa, qs⟩, q1, q2⟩ := c_separate ar sr
  rw [bd_t q1]
  dsimp only at q2 ⊢
  -- the loop, from any turn on
  have key : ∀ j i : Nat, i + j = E → ∀ (ga sa : Nat → Int32), US ga sa (gK x y i) (dK x y (cr n) i) → (∀ k, k < i → gK x y k (x k) = gK x y k (y k) → ((dK x y (cr n) k (x k) ^^ dK x y (cr n) k (y k)) ^^ cr n k) = false) →
      ∃ r, wh (b_X3_canDivide_6 v e f s n) (nI i, ga, sa) = some r ∧ ((okK x y (cr n) E ∧ ∃ u w, r = .inr (u, w)) ∨ (¬ okK x y (cr n) E ∧ ∃ u w, r = .inl (u, w))) := by
    intro j
    induction j with
    | zero =>
      intro i hi ga sa hU hok
      have e1 : i = E := by omega
      subst e1
      refine ⟨.inr (ga, sa), wh_inr ?_, Or.inl ⟨hok, _, _, rfl⟩⟩
      unfold b_X3_canDivide_6
      simp (disch := omega) only [h5, nle, if_pos]
    | succ j ih =>
      intro i hi ga sa hU hok
      have hlt : i < E := by omega
      obtain ⟨⟨ur, ua, us⟩, u1, u2, u3⟩ := c_unite h hU hlt
      dsimp only at u2 u3
      by_cases hq : gK x y i (x i) = gK x y i (y i)
      · rw [if_pos hq] at u2
        have hU2 : US ua us (gK x y i) (dK x y (cr n) i) := by
          have e1 : ug (gK x y i) (x i) (y i) = gK x y i := by funext w; unfold ug; rw [if_pos hq]
          have e2 : ud (gK x y i) (dK x y (cr n) i) (cr n i) (x i) (y i) = dK x y (cr n) i := by funext w; unfold ud; rw [if_pos hq]
          rw [e1, e2] at u3; exact u3
        have ht := c_turnFor h hU2 hlt
        by_cases hc : ((dK x y (cr n) i (x i) ^^ dK x y (cr n) i (y i)) ^^ cr n i) = false
        · obtain ⟨r, r1, r2⟩ := ih (i + 1) (by omega) ua us u3 (fun k hk hg => by
            by_cases ek : k = i
            · subst ek; exact hc
            · exact hok k (by omega) hg)
          refine ⟨r, wh_inl ?_ r1, r2⟩
          unfold b_X3_canDivide_6
          simp (disch := omega) only [h5, nle, if_neg]
          rw [← h5, bd_t u1]
          dsimp only
          rw [u2, if_pos (by decide), bd_t ht, if_pos ((b2_0 _).mpr hc), nI_add]
        · refine ⟨.inl (ua, us), wh_inr ?_, Or.inr ⟨fun ho => hc (ho i hlt hq), _, _, rfl⟩⟩
          unfold b_X3_canDivide_6
          simp (disch := omega) only [h5, nle, if_neg]
          rw [← h5, bd_t u1]
          dsimp only
          rw [u2, if_pos (by decide), bd_t ht, if_neg (fun q => hc ((b2_0 _).mp q))]
      · rw [if_neg hq] at u2
        obtain ⟨r, r1, r2⟩ := ih (i + 1) (by omega) ua us u3 (fun k hk hg => by
          by_cases ek : k = i
          · subst ek; exact absurd hg hq
          · exact hok k (by omega) hg)
        refine ⟨r, wh_inl ?_ r1, r2⟩
        unfold b_X3_canDivide_6
        simp (disch := omega) only [h5, nle, if_neg]
        rw [← h5, bd_t u1]
        dsimp only
        rw [u2, if_neg (by decide), nI_add]
  obtain ⟨r, r1, r2⟩ := key E 0 (by omega) qa qs q2 (fun k hk => absurd hk (Nat.not_lt_zero k))
  rw [bd_t r1]
  rcases r2 with ⟨ho, u, w, rfl⟩ | ⟨ho, u, w, rfl⟩
  · rw [if_pos ho]; exact ⟨_, rfl, rfl⟩
  · rw [if_neg ho]; exact ⟨_, rfl, rfl⟩
/-- balanced: there are two parts -/
def bal (x y : Nat → Nat) (c : Nat → Bool) (E : Nat) : Prop := ∃ σ : Nat → Bool, ∀ k, k < E → (σ (x k) ^^ σ (y k)) = c k
theorem ok_bal (c : Nat → Bool) (hxy : ∀ k, k < E → x k ≠ y k) : okK x y c E ↔ bal x y c E := by
  constructor
  · intro ho
    have inv : ∀ k, k ≤ E → ∀ j, j < k → gK x y k (x j) = gK x y k (y j) ∧ (dK x y c k (x j) ^^ dK x y c k (y j)) = c j := by
      intro k
      induction k with
      | zero => intro _ j hj; exact absurd hj (Nat.not_lt_zero j)
      | succ k ih =>
        intro hk j hj
        show ug (gK x y k) (x k) (y k) (x j) = ug (gK x y k) (x k) (y k) (y j) ∧ (ud (gK x y k) (dK x y c k) (c k) (x k) (y k) (x j) ^^ ud (gK x y k) (dK x y c k) (c k) (x k) (y k) (y j)) = c j
        unfold ug ud
        by_cases hq : gK x y k (x k) = gK x y k (y k)
        · simp only [if_pos hq]
          by_cases ek : j = k
          · subst ek
            refine ⟨hq, ?_⟩
            have := ho j (by omega) hq
            revert this
            generalize dK x y c j (x j) = A
            generalize dK x y c j (y j) = B
            generalize c j = D
            cases A <;> cases B <;> cases D <;> simp
          · exact ih (by omega) j (by omega)
        · simp only [if_neg hq]
          by_cases ek : j = k
          · subst ek
            rw [if_neg hq, if_pos rfl]
            refine ⟨by simp, ?_⟩
            rw [if_neg hq, if_pos rfl]
            generalize dK x y c j (x j) = A
            generalize dK x y c j (y j) = B
            generalize c j = D
            cases A <;> cases B <;> cases D <;> rfl
          · obtain ⟨i1, i2⟩ := ih (by omega) j (by omega)
            rw [← i1]
            by_cases hg : gK x y k (x j) = gK x y k (y k)
            · simp only [if_pos hg, true_and]
              rw [← i2]
              generalize dK x y c k (x j) = A
              generalize dK x y c k (y j) = B
              generalize dK x y c k (x k) = A'
              generalize dK x y c k (y k) = B'
              generalize c k = D
              cases A <;> cases B <;> cases A' <;> cases B' <;> cases D <;> rfl
            · simp only [if_neg hg, true_and]
              exact i2
    exact ⟨dK x y c E, fun k hk => (inv E (Nat.le_refl E) k hk).2⟩
  · rintro ⟨σ, hσ⟩
    have inv : ∀ k, k ≤ E → ∀ u w, gK x y k u = gK x y k w → (dK x y c k u ^^ dK x y c k w) = (σ u ^^ σ w) := by
      intro k
      induction k with
      | zero =>
        intro _ u w huw
        have huw : u = w := huw
        subst huw
        simp
      | succ k ih =>
        intro hk u w huw
        have hs := hσ k (by omega)
        have i1 := ih (by omega)
        change ug (gK x y k) (x k) (y k) u = ug (gK x y k) (x k) (y k) w at huw
        show (ud (gK x y k) (dK x y c k) (c k) (x k) (y k) u ^^ ud (gK x y k) (dK x y c k) (c k) (x k) (y k) w) = _
        unfold ug at huw
        unfold ud
        by_cases hq : gK x y k (x k) = gK x y k (y k)
        · simp only [if_pos hq] at huw ⊢
          exact i1 u w huw
        · simp only [if_neg hq] at huw ⊢
          by_cases hu : gK x y k u = gK x y k (y k) <;> by_cases hw : gK x y k w = gK x y k (y k)
          · simp only [if_pos hu, if_pos hw]
            have := i1 u w (hu.trans hw.symm)
            rw [← this]
            generalize dK x y c k u = A
            generalize dK x y c k w = B
            generalize dK x y c k (x k) = A'
            generalize dK x y c k (y k) = B'
            generalize c k = D
            cases A <;> cases B <;> cases A' <;> cases B' <;> cases D <;> rfl
          · simp only [if_pos hu, if_neg hw] at huw ⊢
            have e1 := i1 u (y k) hu
            have e2 := i1 (x k) w huw
            rw [← hs]
            revert e1 e2
            generalize dK x y c k u = A
            generalize dK x y c k w = B
            generalize dK x y c k (x k) = A'
            generalize dK x y c k (y k) = B'
            generalize σ u = F
            generalize σ w = G
            generalize σ (x k) = F'
            generalize σ (y k) = G'
            cases A <;> cases B <;> cases A' <;> cases B' <;> cases F <;> cases G <;> cases F' <;> cases G' <;> simp
          · simp only [if_neg hu, if_pos hw] at huw ⊢
            have e1 := i1 w (y k) hw
            have e2 := i1 u (x k) huw
            rw [← hs]
            revert e1 e2
            generalize dK x y c k u = A
            generalize dK x y c k w = B
            generalize dK x y c k (x k) = A'
            generalize dK x y c k (y k) = B'
            generalize σ u = F
            generalize σ w = G
            generalize σ (x k) = F'
            generalize σ (y k) = G'
            cases A <;> cases B <;> cases A' <;> cases B' <;> cases F <;> cases G <;> cases F' <;> cases G' <;> simp
          · simp only [if_neg hu, if_neg hw] at huw ⊢
            exact i1 u w huw
    intro k hk hg
    have e1 := inv k (by omega) (x k) (y k) hg
    rw [e1, hσ k hk]
    simp
/-! the reference tries every set -/
def bit (t v : Nat) : Bool := t.testBit v
theorem sh_bit : ∀ t, t < 64 → ∀ v, v < 6 → ((nI t >>> (nI v &&& 31)) &&& nI 1) = b2 (bit t v) := by decide +kernel
theorem sh_one : ∀ v, v < 7 → (nI 1 <<< (nI v &&& 31)) = nI (2 ^ v) := by decide +kernel
def mks (σ : Nat → Bool) : Nat → Nat
  | 0 => 0
  | k + 1 => mks σ k + if σ k = true then 2 ^ k else 0
theorem mks_lt (σ : Nat → Bool) : ∀ k, mks σ k < 2 ^ k
  | 0 => by show 0 < 1; decide
  | k + 1 => by
    have := mks_lt σ k
    unfold mks
    rw [Nat.pow_succ]
    split <;> omega
theorem mks_bit (σ : Nat → Bool) : ∀ k v, v < k → bit (mks σ k) v = σ v := by
  intro k
  induction k with
  | zero => intro v hv; exact absurd hv (Nat.not_lt_zero v)
  | succ k ih =>
    intro v hv
    have hl := mks_lt σ k
    unfold mks bit
    by_cases hk : σ k = true
    · rw [if_pos hk, Nat.add_comm]
      by_cases e : v = k
      · subst e; rw [Nat.testBit_two_pow_add_eq, Nat.testBit_lt_two_pow hl, hk]; rfl
      · rw [Nat.testBit_two_pow_add_gt (by omega)]; exact ih v (by omega)
    · rw [if_neg hk, Nat.add_zero]
      by_cases e : v = k
      · subst e; rw [Nat.testBit_lt_two_pow hl]; simp at hk; exact hk.symm
      · exact ih v (by omega)
theorem b2_eq (a b : Bool) : (b2 a = b2 b) = (a = b) := by cases a <;> cases b <;> simp <;> decide
theorem m_inner (h : GA v e f s n now 0 a E x y) {t : Nat} (ht : t < 64) {q1 q2 q3 q4 : Int32} : wh (b_X9_isBalanced_18 q1 q2 q3 q4 now (nI t)) (nI 0, nI 1) = some (@ite _ (∀ k, k < E → (bit t (x k) ^^ bit t (y k)) = cr n k) (Classical.propDecidable _) (nI 1) (nI 0)) := by
  obtain ⟨h1, h2, h3, h4, h5, h6, h7, h8⟩ := id h
  rw [Nat.zero_add] at h7
  have hr := wh_cnt (b := b_X9_isBalanced_18 q1 q2 q3 q4 now (nI t)) (S := fun i => (nI i, @ite Int32 (∀ k, k < i → (bit t (x k) ^^ bit t (y k)) = cr n k) (Classical.propDecidable _) (nI 1) (nI 0))) E (r := @ite Int32 (∀ k, k < E → (bit t (x k) ^^ bit t (y k)) = cr n k) (Classical.propDecidable _) (nI 1) (nI 0)) (fun i hi => ?_) ?_ 0 (Nat.zero_le _)
  · rw [if_pos (fun k hk => absurd hk (Nat.not_lt_zero k))] at hr
    exact hr
  · obtain ⟨b1, b2', b3, -⟩ := h8 i hi
    have me := m_end h (d := 2 * i) (by omega) (q1 := q1) (q2 := q2) (q3 := q3) (q4 := q4)
    have et : tl x y (2 * i) = x i := by unfold tl; rw [if_pos (by omega), show 2 * i / 2 = i by omega]
    have eh : hd x y (2 * i) = y i := by unfold hd; rw [if_pos (by omega), show 2 * i / 2 = i by omega]
    rw [et, eh] at me
    have ms := m_sign h (d := 2 * i) (by omega) (q1 := q1) (q2 := q2) (q3 := q3) (q4 := q4)
    rw [show 2 * i / 2 = i by omega] at ms
    unfold b_X9_isBalanced_18
    simp (disch := omega) only [ginb, ncl, h7, nle, if_neg, pk_mul, me.1, me.2, ms, bd_s, nI_add]
    rw [sh_bit t ht (x i) (by omega), sh_bit t ht (y i) (by omega)]
    simp only [b2_eq]
    have ec : (if n i = nI 4294967295 then some (nI 1) else some (nI 0)) = some (b2 (cr n i)) := by
      unfold b2 cr
      by_cases q : n i = nI 4294967295
      · rw [if_pos q, if_pos (decide_eq_true q)]
      · rw [if_neg q, if_neg (by rw [decide_eq_true_eq]; exact q)]
    have ed : (if bit t (x i) = bit t (y i) then some (nI 0) else some (nI 1)) = some (b2 (bit t (x i) ^^ bit t (y i))) := by
      generalize bit t (x i) = A
      generalize bit t (y i) = B
      cases A <;> cases B <;> rfl
    rw [ed, bd_s]
    by_cases hp : ∀ k, k < i → (bit t (x k) ^^ bit t (y k)) = cr n k
    · rw [if_pos hp, if_neg (by decide), bd_t ec]
      simp only [b2_eq]
      by_cases hc : (bit t (x i) ^^ bit t (y i)) = cr n i
      · rw [if_pos hc, bd_s, if_pos (fun k hk => ?_)]
        by_cases ek : k = i
        · subst ek; exact hc
        · exact hp k (by omega)
      · rw [if_neg hc, bd_s, if_neg (fun q => hc (q i (by omega)))]
    · rw [if_neg hp, if_pos (by decide), bd_s, if_neg (fun q => hp (fun k hk => q k (by omega)))]
  · unfold b_X9_isBalanced_18
    simp (disch := omega) only [ginb, ncl, h7, nle, if_pos]
theorem m_isBalanced (h : GA v e f s n now 0 a E x y) {q1 q2 q3 q4 : Int32} : f_X9_isBalanced q1 q2 q3 q4 now = some (@ite _ (bal x y (cr n) E) (Classical.propDecidable _) (nI 1) (nI 0)) := by
  obtain ⟨h1, h2, h3, h4, h5, h6, h7, h8⟩ := id h
  have hpow : 2 ^ a ≤ 64 := Nat.pow_le_pow_right (n := 2) (by omega) h2
  unfold f_X9_isBalanced
  have hr := wh_find (b := b_X9_isBalanced_2 q1 q2 q3 q4 now) (S := fun i => nI i) (2 ^ a) (fun t => ∀ k, k < E → (bit t (x k) ^^ bit t (y k)) = cr n k) (.inl ()) (.inr ()) (fun i hi hng => ?_) (fun i hi hg => ?_) ?_
  · rw [bd_t hr]
    by_cases hb : ∃ i, i < 2 ^ a ∧ ∀ k, k < E → (bit i (x k) ^^ bit i (y k)) = cr n k
    · obtain ⟨i, hi, hg⟩ := id hb
      rw [if_pos hb, if_pos ⟨bit i, hg⟩]
      rfl
    · have hnb : ¬ bal x y (cr n) E := fun ⟨σ, hσ⟩ => hb ⟨mks σ a, mks_lt σ a, fun k hk => by
        obtain ⟨b1, b2', -⟩ := h8 k hk
        rw [mks_bit σ a (x k) b1, mks_bit σ a (y k) b2']
        exact hσ k hk⟩
      rw [if_neg hb, if_neg hnb]
      rfl
  · unfold b_X9_isBalanced_2
    simp (disch := omega) only [ginb, ncl, h6, sh_one a (by omega), nle, if_neg]
    rw [m_inner h (by omega), if_neg hng, bd_s, if_pos (by decide), nI_add]
  · unfold b_X9_isBalanced_2
    simp (disch := omega) only [ginb, ncl, h6, sh_one a (by omega), nle, if_neg]
    rw [m_inner h (by omega), if_pos hg, bd_s, if_neg (by decide)]
  · unfold b_X9_isBalanced_2
    simp (disch := omega) only [ginb, ncl, h6, sh_one a (by omega), nle, if_pos]
end BAL
theorem pr_isBalanced : Pr_isBalanced := by
  intro I J K L C Mm hI
  obtain ⟨a, E, x, y, hG⟩ := gr_GA hI.1
  obtain ⟨⟨q0, qa, qs⟩, q1, q2⟩ := c_canDivide hG (I 7) (I 8)
  dsimp only at q2
  have hb := ok_bal (x := x) (y := y) (E := E) (cr (I 2)) (fun k hk => (hG.2.2.2.2.2.2.2 k hk).2.2.1)
  unfold f_X8_isBalanced
  rw [bd_t q1, m_isBalanced hG]
  dsimp only
  rw [q2]
  by_cases ho : okK x y (cr (I 2)) E
  · rw [if_pos ho, if_pos (hb.mp ho), if_neg (by decide)]
    exact ⟨_, _, rfl, rfl, rfl, hI⟩
  · rw [if_neg ho, if_neg (fun q => ho (hb.mpr q)), if_pos (by decide)]
    exact ⟨_, _, rfl, rfl, rfl, hI⟩
