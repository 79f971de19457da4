/-! loops by an invariant -/
theorem wh_inv {σ ρ : Type} {b : σ → Option (σ ⊕ ρ)} (P : Nat → σ → Prop) (Q : ρ → Prop) (n : Nat) (hs : ∀ i s, i < n → P i s → ∃ s', b s = some (.inl s') ∧ P (i + 1) s') (he : ∀ s, P n s → ∃ r, b s = some (.inr r) ∧ Q r) : ∀ i s, i ≤ n → P i s → ∃ r, wh b s = some r ∧ Q r := by
  have : ∀ k i s, i + k = n → P i s → ∃ r, wh b s = some r ∧ Q r := by
    intro k
    induction k with
    | zero =>
      intro i s hi hP
      obtain ⟨r, h1, h2⟩ := he s (by rw [show n = i by omega]; exact hP)
      exact ⟨r, wh_inr h1, h2⟩
    | succ k ih =>
      intro i s hi hP
      obtain ⟨s', h1, h2⟩ := hs i s (by omega) hP
      obtain ⟨r, h3, h4⟩ := ih (i + 1) s' (by omega) h2
      exact ⟨r, wh_inl h1 h3, h4⟩
  intro i s hi hP
  exact this (n - i) i s (by omega) hP
/-- a loop that ends early at the first good turn -/
theorem wh_find {σ ρ : Type} {b : σ → Option (σ ⊕ ρ)} (S : Nat → σ) (n : Nat) (good : Nat → Prop) (r1 r2 : ρ) (hs : ∀ i, i < n → ¬ good i → b (S i) = some (.inl (S (i + 1)))) (hg : ∀ i, i < n → good i → b (S i) = some (.inr r1)) (he : b (S n) = some (.inr r2)) : wh b (S 0) = some (@ite _ (∃ i, i < n ∧ good i) (Classical.propDecidable _) r1 r2) := by
  have key : ∀ k i, i + k = n → (∀ j, j < i → ¬ good j) → wh b (S i) = some (@ite _ (∃ i, i < n ∧ good i) (Classical.propDecidable _) r1 r2) := by
    intro k
    induction k with
    | zero =>
      intro i hi hn
      rw [if_neg (fun ⟨j, h1, h2⟩ => hn j (by omega) h2), show i = n by omega]
      exact wh_inr he
    | succ k ih =>
      intro i hi hn
      by_cases hgi : good i
      · rw [if_pos ⟨i, by omega, hgi⟩]
        exact wh_inr (hg i (by omega) hgi)
      · refine wh_inl (hs i (by omega) hgi) (ih (i + 1) (by omega) fun j hj => ?_)
        by_cases e : j = i
        · rw [e]; exact hgi
        · exact hn j (by omega)
  exact key n 0 (by omega) (fun j hj => absurd hj (Nat.not_lt_zero j))
def b2 (b : Bool) : Int32 := if b = true then nI 1 else nI 0
theorem b2_xor (a b : Bool) : b2 a ^^^ b2 b = b2 (a ^^ b) := by cases a <;> cases b <;> decide
theorem b2_0 (a : Bool) : (b2 a = 0) ↔ a = false := by cases a <;> decide
theorem upd_at {f : Nat → Int32} {k j : Nat} {x : Int32} : upd f k x j = if j = k then x else f j := rfl
/-- the labels and the sides in the arrays -/
def US (ar sr : Nat → Int32) (g : Nat → Nat) (d : Nat → Bool) : Prop := ∀ k, k < 6 → ar k = nI (g k) ∧ g k < 6 ∧ sr k = b2 (d k)
theorem c_separate (ar sr : Nat → Int32) : ∃ r, f_X3_separate ar sr = some r ∧ US r.1 r.2 (fun k => k) (fun _ => false) := by
  unfold f_X3_separate
  have hw := wh_inv (b := b_X3_separate_2) (fun i z => z.1 = nI i ∧ ∀ k, k < i → z.2.1 k = nI k ∧ z.2.2 k = nI 0) (fun r => ∀ k, k < 6 → r.1 k = nI k ∧ r.2 k = nI 0) 6 (fun i z hi ⟨h1, h2⟩ => ?_) (fun z ⟨h1, h2⟩ => ?_) 0 (nI 0, ar, sr) (by omega) ⟨rfl, fun k h => absurd h (Nat.not_lt_zero k)⟩
  · obtain ⟨r, h1, h2⟩ := hw
    rw [bd_t h1]
    exact ⟨_, rfl, fun k hk => ⟨(h2 k hk).1, hk, (h2 k hk).2⟩⟩
  · unfold b_X3_separate_2
    simp (disch := omega) only [h1, nle, if_neg, ginb, ncl, nI_add]
    refine ⟨_, rfl, rfl, fun k hk => ?_⟩
    simp only [upd_at]
    by_cases e : k = i
    · subst e; simp
    · rw [if_neg e, if_neg e]; exact h2 k (by omega)
  · unfold b_X3_separate_2
    simp (disch := omega) only [h1, nle, if_pos]
    exact ⟨_, rfl, h2⟩
section GROUP
variable {v e : Int32} {f s n now : Nat → Int32} {a E : Nat} {x y : Nat → Nat}
def cr (n : Nat → Int32) (k : Nat) : Bool := decide (n k = nI 4294967295)
theorem c_turnFor (h : GA v e f s n now 0 a E x y) {ar sr : Nat → Int32} {g : Nat → Nat} {d : Nat → Bool} (hU : US ar sr g d) {k : Nat} (hk : k < E) : f_X3_turnFor (nI k) sr v e f s n = some (b2 ((d (x k) ^^ d (y k)) ^^ cr n k)) := by
  obtain ⟨h1, h2, h3, h4, h5, h6, h7, h8⟩ := h
  obtain ⟨b1, b2', b3, b4, b5, -⟩ := h8 k hk
  have e1 := (hU (x k) (by omega)).2.2
  have e2 := (hU (y k) (by omega)).2.2
  unfold f_X3_turnFor
  simp (disch := omega) only [ginb, ncl, b4, b5, e1, e2]
  have ec : (if n k = nI 4294967295 then some (nI 1) else some (nI 0)) = some (b2 (cr n k)) := by
    unfold b2 cr
    by_cases q : n k = nI 4294967295
    · rw [if_pos q, if_pos (decide_eq_true q)]
    · rw [if_neg q, if_neg (by rw [decide_eq_true_eq]; exact q)]
  rw [ec, bd_s, b2_xor, b2_xor]
/-- two labels made one: of the first end -/
def ug (g : Nat → Nat) (p q : Nat) : Nat → Nat := fun v => if g p = g q then g v else if g v = g q then g p else g v
def ud (g : Nat → Nat) (d : Nat → Bool) (c : Bool) (p q : Nat) : Nat → Bool := fun v => if g p = g q then d v else if g v = g q then (d v ^^ ((d p ^^ d q) ^^ c)) else d v
theorem c_unite (h : GA v e f s n now 0 a E x y) {ar sr : Nat → Int32} {g : Nat → Nat} {d : Nat → Bool} (hU : US ar sr g d) {k : Nat} (hk : k < E) : ∃ r, f_X3_unite (nI k) ar sr v e f s n = some r ∧ r.1 = (if g (x k) = g (y k) then nI 0 else nI 1) ∧ US r.2.1 r.2.2 (ug g (x k) (y k)) (ud g d (cr n k) (x k) (y k)) := by
  obtain ⟨h1, h2, h3, h4, h5, h6, h7, h8⟩ := id h
  obtain ⟨b1, b2', b3, b4, b5, -⟩ := h8 k hk
  obtain ⟨e1, e1', -⟩ := hU (x k) (by omega)
  obtain ⟨e2, e2', -⟩ := hU (y k) (by omega)
  unfold f_X3_unite
  simp (disch := omega) only [ginb, ncl, b4, b5, e1, e2, nm_s, neq]
  by_cases hq : g (x k) = g (y k)
  · rw [if_pos hq, if_pos hq]
    refine ⟨_, rfl, rfl, fun w hw => ?_⟩
    unfold ug ud
    rw [if_pos hq, if_pos hq]
    exact hU w hw
  · rw [if_neg hq, if_neg hq, c_turnFor h hU hk, bd_s]
    have hw := wh_inv (b := b_X3_unite_44 (nI (g (x k))) (nI (g (y k))) (b2 ((d (x k) ^^ d (y k)) ^^ cr n k))) (fun i z => z.1 = nI i ∧ ∀ w, w < 6 → (w < i → z.2.1 w = nI (ug g (x k) (y k) w) ∧ z.2.2 w = b2 (ud g d (cr n k) (x k) (y k) w)) ∧ (i ≤ w → z.2.1 w = nI (g w) ∧ z.2.2 w = b2 (d w))) (fun r => ∀ w, w < 6 → r.1 w = nI (ug g (x k) (y k) w) ∧ r.2 w = b2 (ud g d (cr n k) (x k) (y k) w)) 6 (fun i z hi ⟨z1, z2⟩ => ?_) (fun z ⟨z1, z2⟩ => ?_) 0 (nI 0, ar, sr) (by omega) ⟨rfl, fun w hw => ⟨fun q => absurd q (Nat.not_lt_zero w), fun _ => ⟨(hU w hw).1, (hU w hw).2.2⟩⟩⟩
    · obtain ⟨r, r1, r2⟩ := hw
      rw [bd_t r1]
      refine ⟨_, rfl, rfl, fun w hw => ⟨(r2 w hw).1, ?_, (r2 w hw).2⟩⟩
      unfold ug
      have := (hU w hw).2.1
      split
      · exact this
      · split <;> assumption
    · obtain ⟨w1, w2⟩ := (z2 i hi).2 (Nat.le_refl i)
      have hgi := (hU i hi).2.1
      unfold b_X3_unite_44
      simp (disch := omega) only [z1, nle, if_neg, ginb, ncl, w1, w2, neq, nI_add, b2_xor]
      by_cases c1 : g i = g (y k)
      · rw [if_pos c1]
        refine ⟨_, rfl, rfl, fun w hw => ⟨fun q => ?_, fun q => ?_⟩⟩
        · simp only [upd_at]
          by_cases e : w = i
          · subst e
            unfold ug ud
            simp [hq, c1]
          · rw [if_neg e, if_neg e]; exact (z2 w hw).1 (by omega)
        · simp only [upd_at]
          rw [if_neg (by omega), if_neg (by omega)]
          exact (z2 w hw).2 (by omega)
      · rw [if_neg c1]
        refine ⟨_, rfl, rfl, fun w hw => ⟨fun q => ?_, fun q => (z2 w hw).2 (by omega)⟩⟩
        by_cases e : w = i
        · subst e
          unfold ug ud
          simp only [hq, c1, if_false]
          exact ⟨w1, w2⟩
        · exact (z2 w hw).1 (by omega)
    · unfold b_X3_unite_44
      simp (disch := omega) only [z1, nle, if_pos]
      exact ⟨_, rfl, fun w hw => (z2 w hw).1 hw⟩
/-- labels, sides and the count behind the first k edges -/
def gK (x y : Nat → Nat) : Nat → Nat → Nat
  | 0 => fun k => k
  | k + 1 => ug (gK x y k) (x k) (y k)
def dK (x y : Nat → Nat) (c : Nat → Bool) : Nat → Nat → Bool
  | 0 => fun _ => false
  | k + 1 => ud (gK x y k) (dK x y c k) (c k) (x k) (y k)
def nK (x y : Nat → Nat) (a : Nat) : Nat → Int32
  | 0 => nI a
  | k + 1 => if gK x y k (x k) = gK x y k (y k) then nK x y a k else nK x y a k - nI 1
theorem m1_sub (z : Int32) : z + nI 4294967295 = z - nI 1 := by
  rw [show nI 4294967295 = -nI 1 by decide, Int32.sub_eq_add_neg]
theorem c_countGroups (h : GA v e f s n now 0 a E x y) (ar sr : Nat → Int32) : ∃ r, f_X3_countGroups ar sr v e f s n = some r ∧ r.1 = nK x y a E := by
  obtain ⟨h1, h2, h3, h4, h5, h6, h7, h8⟩ := id h
  unfold f_X3_countGroups
  obtain ⟨q, q1, q2⟩ := c_separate ar sr
  rw [bd_t q1]
  have hw := wh_inv (b := b_X3_countGroups_11 v e f s n) (fun i z => z.1 = nI i ∧ z.2.1 = nK x y a i ∧ US z.2.2.1 z.2.2.2 (gK x y i) (dK x y (cr n) i)) (fun r => r.1 = nK x y a E) E (fun i z hi ⟨z1, z2, z3⟩ => ?_) (fun z ⟨z1, z2, z3⟩ => ?_) 0 (nI 0, v, q.1, q.2) (by omega) ⟨rfl, h4, q2⟩
  · obtain ⟨r, r1, r2⟩ := hw
    rw [bd_t r1]
    exact ⟨_, rfl, r2⟩
  · obtain ⟨⟨ur, ua, us⟩, u1, u2, u3⟩ := c_unite h z3 hi
    dsimp only at u2 u3
    unfold b_X3_countGroups_11
    simp (disch := omega) only [z1, h5, nle, if_neg]
    rw [← h5, bd_t u1]
    dsimp only
    rw [u2]
    have en : nK x y a (i + 1) = if gK x y i (x i) = gK x y i (y i) then nK x y a i else nK x y a i - nI 1 := rfl
    by_cases hq : gK x y i (x i) = gK x y i (y i)
    · simp (disch := omega) only [if_pos hq, neq0, if_pos, nI_add]
      exact ⟨_, rfl, rfl, by rw [en, if_pos hq]; exact z2, u3⟩
    · have hm := m1_sub
      generalize nI 4294967295 = cc at hm ⊢
      simp (disch := omega) only [if_neg hq, neq0, if_neg, nI_add, nm_s]
      refine ⟨_, rfl, rfl, ?_, u3⟩
      rw [en, if_neg hq, ← hm, ← z2]
  · unfold b_X3_countGroups_11
    simp (disch := omega) only [z1, h5, nle, if_pos]
    exact ⟨_, rfl, z2⟩
/-! the reference's labels -/
def uh (g : Nat → Nat) (p q : Nat) : Nat → Nat := fun v => if g v = g p then g q else g v
def hK (x y : Nat → Nat) : Nat → Nat → Nat
  | 0 => fun k => k
  | k + 1 => uh (hK x y k) (x k) (y k)
theorem gh (h : GA v e f s n now 0 a E x y) : ∀ k, k ≤ E → ∀ u w, u < a → w < a → (gK x y k u = gK x y k w ↔ hK x y k u = hK x y k w) := by
  intro k
  induction k with
  | zero => intro _ u w _ _; exact Iff.rfl
  | succ k ih =>
    intro hk u w hu hw
    obtain ⟨b1, b2, -⟩ := h.2.2.2.2.2.2.2 k (by omega)
    have i1 := ih (by omega) u w hu hw
    have i2 := ih (by omega) u (x k) hu b1
    have i3 := ih (by omega) u (y k) hu b2
    have i4 := ih (by omega) w (x k) hw b1
    have i5 := ih (by omega) w (y k) hw b2
    have i6 := ih (by omega) (x k) (y k) b1 b2
    show (ug (gK x y k) (x k) (y k) u = ug (gK x y k) (x k) (y k) w ↔ uh (hK x y k) (x k) (y k) u = uh (hK x y k) (x k) (y k) w)
    unfold ug uh
    generalize gK x y k u = A at *
    generalize gK x y k w = B at *
    generalize gK x y k (x k) = P at *
    generalize gK x y k (y k) = Q at *
    generalize hK x y k u = A' at *
    generalize hK x y k w = B' at *
    generalize hK x y k (x k) = P' at *
    generalize hK x y k (y k) = Q' at *
    repeat' split
    all_goals omega
theorem m_partsNow (h : GA v e f s n now 0 a E x y) (pr : Nat → Int32) {q1 q2 q3 q4 : Int32} : ∃ r, f_X9_partsNow q1 q2 q3 q4 now pr = some r ∧ r.1 = nK x y a E := by
  obtain ⟨h1, h2, h3, h4, h5, h6, h7, h8⟩ := id h
  rw [Nat.zero_add] at h7
  unfold f_X9_partsNow
  have hw := wh_inv (b := b_X9_partsNow_2 now) (fun i z => z.1 = nI i ∧ ∀ k, k < i → z.2 k = nI k) (fun r => ∀ k, k < a → r k = nI k) a (fun i z hi ⟨z1, z2⟩ => ?_) (fun z ⟨z1, z2⟩ => ?_) 0 (nI 0, pr) (by omega) ⟨rfl, fun k h => absurd h (Nat.not_lt_zero k)⟩
  · obtain ⟨r, r1, r2⟩ := hw
    rw [bd_t r1]
    simp (disch := omega) only [ginb, ncl, h6, nm_s]
    have hw := wh_inv (b := b_X9_partsNow_34 q1 q2 q3 q4 now) (fun i z => z.1 = nI i ∧ z.2.1 = nK x y a i ∧ ∀ k, k < a → z.2.2 k = nI (hK x y i k) ∧ hK x y i k < a) (fun r => r.1 = nK x y a E) E (fun i z hi ⟨z1, z2, z3⟩ => ?_) (fun z ⟨z1, z2, z3⟩ => ?_) 0 (nI 0, nI a, r) (by omega) ⟨rfl, rfl, fun k hk => ⟨r2 k hk, hk⟩⟩
    · obtain ⟨t, t1, t2⟩ := hw
      rw [bd_t t1]
      exact ⟨_, rfl, t2⟩
    · obtain ⟨b1, b2, b3, -⟩ := h8 i hi
      have me := m_end h (d := 2 * i) (by omega) (q1 := q1) (q2 := q2) (q3 := q3) (q4 := q4)
      have et : tl x y (2 * i) = x i := by unfold tl; rw [if_pos (by omega), show 2 * i / 2 = i by omega]
      have eh : hd x y (2 * i) = y i := by unfold hd; rw [if_pos (by omega), show 2 * i / 2 = i by omega]
      rw [et, eh] at me
      obtain ⟨p1, p1'⟩ := z3 (x i) b1
      obtain ⟨p2, p2'⟩ := z3 (y i) b2
      unfold b_X9_partsNow_34
      simp (disch := omega) only [ginb, ncl, h7, z1, nle, if_neg, pk_mul, me.1, me.2, bd_s, nm_s, p1, p2, neq]
      have hw := wh_inv (b := b_X9_partsNow_90 now (nI (hK x y i (x i))) (nI (hK x y i (y i)))) (fun j z' => z'.1 = nI j ∧ ∀ u, u < a → (u < j → z'.2 u = nI (hK x y (i + 1) u)) ∧ (j ≤ u → z'.2 u = nI (hK x y i u))) (fun r => ∀ u, u < a → r u = nI (hK x y (i + 1) u)) a (fun j z' hj ⟨y1, y2⟩ => ?_) (fun z' ⟨y1, y2⟩ => ?_) 0 (nI 0, z.2.2) (by omega) ⟨rfl, fun u hu => ⟨fun q => absurd q (Nat.not_lt_zero u), fun _ => (z3 u hu).1⟩⟩
      · obtain ⟨w, w1, w2⟩ := hw
        have hlt : ∀ k, k < a → hK x y (i + 1) k < a := by
          intro k hk
          show uh (hK x y i) (x i) (y i) k < a
          unfold uh
          split
          · exact p2'
          · exact (z3 k hk).2
        have en : nK x y a (i + 1) = if gK x y i (x i) = gK x y i (y i) then nK x y a i else nK x y a i - nI 1 := rfl
        have hg := gh h i (by omega) (x i) (y i) b1 b2
        by_cases hq : hK x y i (x i) = hK x y i (y i)
        · rw [if_pos hq, bd_s, bd_t w1, nI_add]
          refine ⟨_, rfl, rfl, ?_, fun k hk => ⟨w2 k hk, hlt k hk⟩⟩
          rw [en, if_pos (hg.mpr hq), ← z2]
          show z.2.1 - nI 0 = z.2.1
          rw [nI_0, Int32.sub_zero]
        · rw [if_neg hq, bd_s, bd_t w1, nI_add]
          refine ⟨_, rfl, rfl, ?_, fun k hk => ⟨w2 k hk, hlt k hk⟩⟩
          rw [en, if_neg (fun q => hq (hg.mp q)), ← z2]
      · have e1 := (y2 j hj).2 (Nat.le_refl j)
        have e2 := (z3 j hj).2
        unfold b_X9_partsNow_90
        simp (disch := omega) only [ginb, ncl, h6, y1, nle, if_neg, e1, neq]
        have en : hK x y (i + 1) j = if hK x y i j = hK x y i (x i) then hK x y i (y i) else hK x y i j := rfl
        by_cases c1 : hK x y i j = hK x y i (x i)
        · rw [if_pos c1, bd_s, nI_add]
          refine ⟨_, rfl, rfl, fun u hu => ⟨fun q => ?_, fun q => ?_⟩⟩
          · simp only [upd_at]
            by_cases e : u = j
            · subst e; rw [if_pos rfl, en, if_pos c1]
            · rw [if_neg e]; exact (y2 u hu).1 (by omega)
          · simp only [upd_at]
            rw [if_neg (by omega)]; exact (y2 u hu).2 (by omega)
        · rw [if_neg c1, bd_s, nI_add]
          refine ⟨_, rfl, rfl, fun u hu => ⟨fun q => ?_, fun q => ?_⟩⟩
          · simp only [upd_at]
            by_cases e : u = j
            · subst e; rw [if_pos rfl, en, if_neg c1]
            · rw [if_neg e]; exact (y2 u hu).1 (by omega)
          · simp only [upd_at]
            rw [if_neg (by omega)]; exact (y2 u hu).2 (by omega)
      · unfold b_X9_partsNow_90
        simp (disch := omega) only [ginb, ncl, h6, y1, nle, if_pos]
        exact ⟨_, rfl, fun u hu => (y2 u hu).1 hu⟩
    · unfold b_X9_partsNow_34
      simp (disch := omega) only [ginb, ncl, h7, z1, nle, if_pos]
      exact ⟨_, rfl, z2⟩
  · unfold b_X9_partsNow_2
    simp (disch := omega) only [ginb, ncl, h6, z1, nle, if_neg, nI_add]
    refine ⟨_, rfl, rfl, fun k hk => ?_⟩
    simp only [upd_at]
    by_cases e : k = i
    · subst e; rw [if_pos rfl]
    · rw [if_neg e]; exact z2 k (by omega)
  · unfold b_X9_partsNow_2
    simp (disch := omega) only [ginb, ncl, h6, z1, nle, if_pos]
    exact ⟨_, rfl, z2⟩
end GROUP
