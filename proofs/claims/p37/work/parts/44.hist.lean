/-! the saved graphs on both sides -/
theorem gr_congr {v e : Int32} {f s n f' s' n' now now' : Nat → Int32} {o o' : Nat} (h : gr v e f s n now o) (hf : ∀ k, k < 9 → f' k = f k ∧ s' k = s k ∧ n' k = n k) (hn : ∀ i, i < 29 → now' (o' + i) = now (o + i)) : gr v e f' s' n' now' o' := by
  obtain ⟨a, E, h1, h2, h3, h4, h5, h6, h7, h8⟩ := h
  refine ⟨a, E, h1, h2, h3, h4, h5, (hn 0 (by omega)).trans h6, (hn 1 (by omega)).trans h7, fun k hk => ?_⟩
  obtain ⟨x, y, a1, a2, a3, a4, a5, a6, a7, a8, a9⟩ := h8 k hk
  obtain ⟨f1, f2, f3⟩ := hf k (by omega)
  refine ⟨x, y, a1, a2, a3, f1.trans a4, f2.trans a5, ?_, ?_, ?_, ?_⟩
  · rw [show o' + 2 + 3 * k = o' + (2 + 3 * k) by omega, hn (2 + 3 * k) (by omega), show o + (2 + 3 * k) = o + 2 + 3 * k by omega]; exact a6
  · rw [show o' + 2 + 3 * k + 1 = o' + (2 + 3 * k + 1) by omega, hn (2 + 3 * k + 1) (by omega), show o + (2 + 3 * k + 1) = o + 2 + 3 * k + 1 by omega]; exact a7
  · rw [f3]; exact a8
  · rw [show o' + 2 + 3 * k + 2 = o' + (2 + 3 * k + 2) by omega, hn (2 + 3 * k + 2) (by omega), show o + (2 + 3 * k + 2) = o + 2 + 3 * k + 2 by omega, f3]; exact a9
def HS (c : Nat) (L : List Nat) (C : Nat → GC) (past : Nat → Int32) : Prop := c ≤ 8 ∧ L.length = 8 ∧ ∃ ℓ : Nat → Nat, (∀ k, k < 8 → L[k]? = some (ℓ k) ∧ ℓ k < 8) ∧ (∀ i j, i < 8 → j < 8 → ℓ i = ℓ j → i = j) ∧ ∀ k, k < c → gr (C (ℓ k)).1 (C (ℓ k)).2.1 (C (ℓ k)).2.2.1 (C (ℓ k)).2.2.2.1 (C (ℓ k)).2.2.2.2 past (29 * k)
def InvH (K4 K11 : Int32) (L : List Nat) (C : Nat → GC) (past : Nat → Int32) : Prop := ∃ c : Nat, c ≤ 8 ∧ K4 = nI c ∧ K11 = nI c ∧ L.length = 8 ∧ (∀ k, k < 8 → ∃ j, L[k]? = some j ∧ j < 8) ∧ L.Nodup ∧ ∀ k j, k < c → L[k]? = some j → gr (C j).1 (C j).2.1 (C j).2.2.1 (C j).2.2.2.1 (C j).2.2.2.2 past (29 * k)
theorem InvH_iff {K4 K11 : Int32} {L : List Nat} {C : Nat → GC} {past : Nat → Int32} : InvH K4 K11 L C past ↔ ∃ c, K4 = nI c ∧ K11 = nI c ∧ HS c L C past := by
  constructor
  · rintro ⟨c, h1, h2, h3, h4, h5, h6, h7⟩
    refine ⟨c, h2, h3, h1, h4, fun k => L.getD k 0, fun k hk => ?_, fun i j hi hj he => ?_, fun k hk => ?_⟩
    · obtain ⟨j, j1, j2⟩ := h5 k hk
      simp only [List.getD_eq_getElem?_getD, j1, Option.getD_some]
      exact ⟨trivial, j2⟩
    · have hi' : i < L.length := by omega
      have hj' : j < L.length := by omega
      simp only [List.getD_eq_getElem?_getD, List.getElem?_eq_getElem hi', List.getElem?_eq_getElem hj', Option.getD_some] at he
      have hp := List.pairwise_iff_getElem.mp h6
      rcases Nat.lt_trichotomy i j with q | q | q
      · exact absurd he (hp i j hi' hj' q)
      · exact q
      · exact absurd he.symm (hp j i hj' hi' q)
    · obtain ⟨j, j1, j2⟩ := h5 k (by omega)
      have := h7 k j hk j1
      simp only [List.getD_eq_getElem?_getD, j1, Option.getD_some]
      exact this
  · rintro ⟨c, h2, h3, h1, h4, ℓ, h5, h6, h7⟩
    refine ⟨c, h1, h2, h3, h4, fun k hk => ⟨ℓ k, h5 k hk⟩, ?_, fun k j hk hj => ?_⟩
    · refine List.pairwise_iff_getElem.mpr fun i j hi hj hij he => ?_
      have e1 := (h5 i (by omega)).1
      have e2 := (h5 j (by omega)).1
      rw [List.getElem?_eq_getElem hi] at e1
      rw [List.getElem?_eq_getElem hj] at e2
      have := h6 i j (by omega) (by omega) (by rw [← Option.some.inj e1, ← Option.some.inj e2]; exact he)
      omega
    · rw [(h5 k (by omega)).1] at hj
      cases hj
      exact h7 k hk
theorem c_copyFrom (v e : Int32) (f s n : Nat → Int32) (v' e' : Int32) (f' s' n' : Nat → Int32) : ∃ a b d, f_X2_copyFrom v e f s n v' e' f' s' n' = some (v', e', a, b, d) ∧ ∀ k, k < 9 → a k = f' k ∧ b k = s' k ∧ d k = n' k := by
  unfold f_X2_copyFrom
  have hw := wh_inv (b := b_X2_copyFrom_18 f' s' n') (fun i z => z.1 = nI i ∧ ∀ k, k < i → z.2.1 k = f' k ∧ z.2.2.1 k = s' k ∧ z.2.2.2 k = n' k) (fun r => ∀ k, k < 9 → r.1 k = f' k ∧ r.2.1 k = s' k ∧ r.2.2 k = n' k) 9 (fun i z hi ⟨z1, z2⟩ => ?_) (fun z ⟨z1, z2⟩ => ?_) 0 (nI 0, f, s, n) (by omega) ⟨rfl, fun k h => absurd h (Nat.not_lt_zero k)⟩
  · obtain ⟨⟨a, b, d⟩, r1, r2⟩ := hw
    rw [bd_t r1]
    exact ⟨a, b, d, rfl, r2⟩
  · obtain ⟨zi, za, zb, zd⟩ := z
    dsimp only at z1 z2
    subst z1
    unfold b_X2_copyFrom_18
    simp (disch := omega) only [nle, if_neg, ginb, ncl, nI_add]
    refine ⟨_, rfl, rfl, fun k hk => ?_⟩
    simp only [upd_at]
    by_cases ek : k = i
    · subst ek; simp
    · rw [if_neg ek, if_neg ek, if_neg ek]; exact z2 k (by omega)
  · unfold b_X2_copyFrom_18
    simp (disch := omega) only [z1, nle, if_pos]
    exact ⟨_, rfl, z2⟩
theorem c_discard {L : List Nat} {C : Nat → GC} {c : Int32} {ℓ : Nat → Nat} (hL : L.length = 8) (hl : ∀ k, k < 8 → L[k]? = some (ℓ k) ∧ ℓ k < 8) : ∃ L', f_X4_discardOldest c L C = some (nI 7, L') ∧ L'.length = 8 ∧ ∀ k, k < 8 → L'[k]? = some (if k < 7 then ℓ (k + 1) else ℓ 0) := by
  unfold f_X4_discardOldest
  obtain ⟨l0, l0'⟩ := hl 0 (by omega)
  simp (disch := omega) only [ginb, ncl]
  rw [l0, bd_s, gltq l0']
  have hw := wh_inv (b := b_X4_discardOldest_9) (fun i z => z.1 = nI (i + 1) ∧ z.2.length = 8 ∧ ∀ k, k < 8 → z.2[k]? = some (if k < i then ℓ (k + 1) else ℓ k)) (fun r => r.length = 8 ∧ ∀ k, k < 8 → r[k]? = some (if k < 7 then ℓ (k + 1) else ℓ k)) 7 (fun i z hi ⟨z1, z2, z3⟩ => ?_) (fun z ⟨z1, z2, z3⟩ => ?_) 0 (nI 1, L) (by omega) ⟨rfl, hL, fun k hk => by rw [if_neg (Nat.not_lt_zero k)]; exact (hl k hk).1⟩
  · obtain ⟨r, r1, r2, r3⟩ := hw
    rw [bd_t r1, glenq r2]
    refine ⟨_, rfl, by rw [List.length_set]; exact r2, fun k hk => ?_⟩
    by_cases ek : k = 7
    · subst ek
      rw [List.getElem?_set_self (by omega), if_neg (by omega)]
    · rw [List.getElem?_set_ne (fun q => ek q.symm), r3 k hk]
      rw [if_pos (by omega), if_pos (by omega)]
  · obtain ⟨zi, zl⟩ := z
    dsimp only at z1 z2 z3
    subst z1
    have e1 := z3 (i + 1) (by omega)
    rw [if_neg (by omega)] at e1
    unfold b_X4_discardOldest_9
    simp (disch := omega) only [nle, if_neg, ginb, ncl, nsub, Nat.add_sub_cancel]
    rw [e1, bd_s, gltq (hl (i + 1) (by omega)).2, glenq z2, nI_add]
    refine ⟨_, rfl, rfl, by rw [List.length_set]; exact z2, fun k hk => ?_⟩
    by_cases ek : k = i
    · subst ek
      rw [List.getElem?_set_self (by omega), if_pos (by omega)]
    · rw [List.getElem?_set_ne (fun q => ek q.symm), z3 k hk]
      by_cases e2 : k < i
      · rw [if_pos e2, if_pos (by omega)]
      · rw [if_neg e2, if_neg (by omega)]
  · unfold b_X4_discardOldest_9
    simp (disch := omega) only [z1, nle, if_pos]
    exact ⟨_, rfl, z2, z3⟩
/-- class: the graph is put behind the kept ones -/
theorem c_save {c : Nat} {L : List Nat} {C : Nat → GC} {ℓ : Nat → Nat} (hc : c ≤ 8) (hL : L.length = 8) (hl : ∀ k, k < 8 → L[k]? = some (ℓ k) ∧ ℓ k < 8) (v e : Int32) (f s n : Nat → Int32) : ∃ (L' : List Nat) (x : GC), f_X4_save (nI c) v e f s n L C = some (nI (if c < 8 then c + 1 else 8), L', upC C (if c < 8 then ℓ c else ℓ 0) x) ∧ L'.length = 8 ∧ (∀ k, k < 8 → L'[k]? = some (if c < 8 then ℓ k else if k < 7 then ℓ (k + 1) else ℓ 0)) ∧ x.1 = v ∧ x.2.1 = e ∧ ∀ k, k < 9 → x.2.2.1 k = f k ∧ x.2.2.2.1 k = s k ∧ x.2.2.2.2 k = n k := by
  unfold f_X4_save
  by_cases h : c < 8
  · obtain ⟨l0, l0'⟩ := hl c h
    obtain ⟨a, b, d, e1, e2⟩ := c_copyFrom (C (ℓ c)).1 (C (ℓ c)).2.1 (C (ℓ c)).2.2.1 (C (ℓ c)).2.2.2.1 (C (ℓ c)).2.2.2.2 v e f s n
    have hlt : nI c < nI 8 := by rw [nlt (by omega) (by omega)]; exact h
    rw [if_pos hlt, bd_s]
    dsimp only
    rw [ginb h (by omega), ncl (by omega), l0, bd_s, gltq l0', bd_t e1, nI_add]
    refine ⟨L, (v, e, a, b, d), ?_, hL, fun k hk => ?_, rfl, rfl, e2⟩
    · rw [if_pos h, if_pos h]
    · rw [if_pos h]; exact (hl k hk).1
  · obtain ⟨L', d1, d2, d3⟩ := c_discard (C := C) (c := nI c) hL hl
    have l7 := d3 7 (by omega)
    rw [if_neg (by omega)] at l7
    obtain ⟨a, b, d, e1, e2⟩ := c_copyFrom (C (ℓ 0)).1 (C (ℓ 0)).2.1 (C (ℓ 0)).2.2.1 (C (ℓ 0)).2.2.2.1 (C (ℓ 0)).2.2.2.2 v e f s n
    have hlt : ¬ nI c < nI 8 := by rw [nlt (by omega) (by omega)]; exact h
    rw [if_neg hlt, bd_t d1, bd_s]
    dsimp only
    rw [ginb (by omega) (by omega), ncl (by omega), l7, bd_s, gltq (hl 0 (by omega)).2, bd_t e1, nI_add]
    refine ⟨L', (v, e, a, b, d), ?_, d2, fun k hk => ?_, rfl, rfl, e2⟩
    · rw [if_neg h, if_neg h]
    · rw [if_neg h]; exact d3 k hk
/-- reference: the same -/
theorem m_save {c : Nat} (hc : c ≤ 8) (now past : Nat → Int32) {q2 q3 q4 : Int32} : ∃ past', f_X9_save (nI c) q2 q3 q4 now past = some (nI (if c < 8 then c + 1 else 8), past') ∧ (∀ i, i < 29 → past' (29 * (if c < 8 then c else 7) + i) = now i) ∧ ∀ i, i < 29 * (if c < 8 then c else 7) → past' i = if c < 8 then past i else past (i + 29) := by
  unfold f_X9_save
  have tail : ∀ (c1 : Nat) (p1 : Nat → Int32), c1 < 8 → ∃ past', wh (b_X9_save_51 now (nI c1, p1)) (nI 0, p1) = some past' ∧ (∀ i, i < 29 → past' (29 * c1 + i) = now i) ∧ ∀ i, i < 29 * c1 → past' i = p1 i := by
    intro c1 p1 h1
    have hw := wh_inv (b := b_X9_save_51 now (nI c1, p1)) (fun i z => z.1 = nI i ∧ (∀ k, k < i → z.2 (29 * c1 + k) = now k) ∧ ∀ k, k < 29 * c1 → z.2 k = p1 k) (fun r => (∀ k, k < 29 → r (29 * c1 + k) = now k) ∧ ∀ k, k < 29 * c1 → r k = p1 k) 29 (fun i z hi ⟨z1, z2, z3⟩ => ?_) (fun z ⟨z1, z2, z3⟩ => ?_) 0 (nI 0, p1) (by omega) ⟨rfl, fun k h => absurd h (Nat.not_lt_zero k), fun k _ => rfl⟩
    · exact hw
    · obtain ⟨zi, zp⟩ := z
      dsimp only at z1 z2 z3
      subst z1
      unfold b_X9_save_51
      simp (disch := omega) only [nle, if_neg, pk_mul, nI_add, ginb, ncl]
      refine ⟨_, rfl, rfl, fun k hk => ?_, fun k hk => ?_⟩
      · simp only [upd_at]
        by_cases ek : k = i
        · subst ek; rw [if_pos rfl]
        · rw [if_neg (by omega)]; exact z2 k (by omega)
      · simp only [upd_at]
        rw [if_neg (by omega)]; exact z3 k hk
    · unfold b_X9_save_51
      simp (disch := omega) only [z1, nle, if_pos]
      exact ⟨_, rfl, z2, z3⟩
  by_cases h : c < 8
  · have hne : ¬ nI c = nI 8 := by rw [neq (by omega) (by omega)]; omega
    rw [if_neg hne, bd_s]
    obtain ⟨p, t1, t2, t3⟩ := tail c past h
    rw [bd_t t1]
    simp only [if_pos h]
    exact ⟨p, by rw [nI_add], t2, t3⟩
  · have hne : nI c = nI 8 := by rw [neq (by omega) (by omega)]; omega
    rw [if_pos hne]
    have hw := wh_inv (b := b_X9_save_11) (fun i z => z.1 = nI i ∧ ∀ k, (k < i → z.2 k = past (k + 29)) ∧ (i ≤ k → z.2 k = past k)) (fun r => ∀ k, k < 203 → r k = past (k + 29)) 203 (fun i z hi ⟨z1, z2⟩ => ?_) (fun z ⟨z1, z2⟩ => ?_) 0 (nI 0, past) (by omega) ⟨rfl, fun k => ⟨fun h => absurd h (Nat.not_lt_zero k), fun _ => rfl⟩⟩
    · obtain ⟨p1, w1, w2⟩ := hw
      rw [bd_t w1, bd_s]
      obtain ⟨p, t1, t2, t3⟩ := tail 7 p1 (by omega)
      rw [show nI c - nI 1 = nI 7 by rw [show c = 8 by omega]; decide]
      rw [bd_t t1]
      simp only [if_neg h]
      exact ⟨p, by rw [nI_add], t2, fun i hi => by rw [t3 i hi]; exact w2 i (by omega)⟩
    · obtain ⟨zi, zp⟩ := z
      dsimp only at z1 z2
      subst z1
      unfold b_X9_save_11
      simp (disch := omega) only [nle, if_neg, nI_add, ginb, ncl]
      refine ⟨_, rfl, rfl, fun k => ⟨fun hk => ?_, fun hk => ?_⟩⟩
      · simp only [upd_at]
        by_cases ek : k = i
        · subst ek; rw [if_pos rfl]; exact (z2 (k + 29)).2 (by omega)
        · rw [if_neg ek]; exact (z2 k).1 (by omega)
      · simp only [upd_at]
        rw [if_neg (by omega)]; exact (z2 k).2 (by omega)
    · unfold b_X9_save_11
      simp (disch := omega) only [z1, nle, if_pos]
      exact ⟨_, rfl, fun k hk => (z2 k).1 hk⟩
theorem save_both {c : Nat} {L : List Nat} {C : Nat → GC} {past now : Nat → Int32} {v e : Int32} {f s n : Nat → Int32} (h : HS c L C past) (hg : gr v e f s n now 0) (q2 q3 q4 : Int32) : ∃ (c' : Nat) (L' : List Nat) (C' : Nat → GC) (past' : Nat → Int32), f_X4_save (nI c) v e f s n L C = some (nI c', L', C') ∧ f_X9_save (nI c) q2 q3 q4 now past = some (nI c', past') ∧ HS c' L' C' past' := by
  obtain ⟨hc, hL, ℓ, hl, hinj, hgr⟩ := h
  obtain ⟨L', x, a1, a2, a3, a4, a5, a6⟩ := c_save (C := C) hc hL hl v e f s n
  obtain ⟨past', b1, b2, b3⟩ := m_save hc now past (q2 := q2) (q3 := q3) (q4 := q4)
  refine ⟨_, L', _, past', a1, b1, by split <;> omega, a2, fun k => if c < 8 then ℓ k else if k < 7 then ℓ (k + 1) else ℓ 0, fun k hk => ⟨a3 k hk, ?_⟩, fun i j hi hj he => ?_, fun k hk => ?_⟩
  · dsimp only
    split
    · exact (hl k hk).2
    · split
      · exact (hl (k + 1) (by omega)).2
      · exact (hl 0 (by omega)).2
  · by_cases h8 : c < 8
    · simp only [if_pos h8] at he
      exact hinj i j hi hj he
    · simp only [if_neg h8] at he
      by_cases h1 : i < 7 <;> by_cases h2 : j < 7
      · simp only [if_pos h1, if_pos h2] at he
        have := hinj (i + 1) (j + 1) (by omega) (by omega) he
        omega
      · simp only [if_pos h1, if_neg h2] at he
        have := hinj (i + 1) 0 (by omega) (by omega) he
        omega
      · simp only [if_neg h1, if_pos h2] at he
        have := hinj 0 (j + 1) (by omega) (by omega) he
        omega
      · omega
  · by_cases h8 : c < 8
    · simp only [if_pos h8] at hk b2 b3 ⊢
      by_cases ek : k = c
      · subst ek
        have ex : upC C (ℓ k) x (ℓ k) = x := by unfold upC; simp
        rw [ex, a4, a5]
        exact gr_congr hg a6 (fun i hi => by rw [b2 i hi, Nat.zero_add])
      · have ex : upC C (ℓ c) x (ℓ k) = C (ℓ k) := by
          have : ¬ ℓ k = ℓ c := fun q => ek (hinj k c (by omega) h8 q)
          show (bif ℓ k == ℓ c then x else C (ℓ k)) = _
          rw [beq_eq_false_iff_ne.mpr this]; rfl
        rw [ex]
        exact gr_congr (hgr k (by omega)) (fun _ _ => ⟨rfl, rfl, rfl⟩) (fun i hi => b3 (29 * k + i) (by omega))
    · simp only [if_neg h8] at hk b2 b3 ⊢
      by_cases ek : k = 7
      · subst ek
        have ex : upC C (ℓ 0) x (ℓ 0) = x := by unfold upC; simp
        rw [if_neg (by omega), ex, a4, a5]
        exact gr_congr hg a6 (fun i hi => by rw [b2 i hi, Nat.zero_add])
      · have ex : upC C (ℓ 0) x (ℓ (k + 1)) = C (ℓ (k + 1)) := by
          have : ¬ ℓ (k + 1) = ℓ 0 := fun q => by have := hinj (k + 1) 0 (by omega) (by omega) q; omega
          show (bif ℓ (k + 1) == ℓ 0 then x else C (ℓ (k + 1))) = _
          rw [beq_eq_false_iff_ne.mpr this]; rfl
        rw [if_pos (by omega), ex]
        refine gr_congr (hgr (k + 1) (by omega)) (fun _ _ => ⟨rfl, rfl, rfl⟩) (fun i hi => ?_)
        rw [b3 (29 * k + i) (by omega), show 29 * (k + 1) + i = 29 * k + i + 29 by omega]
