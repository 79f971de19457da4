section EXT
variable {v e : Int32} {f s n now : Nat → Int32} {a E : Nat} {x y : Nat → Nat}
theorem c_isWanted (hG : GA v e f s n now 0 a E x y) {L per k : Nat} (hL1 : 1 ≤ L) (hL : L ≤ 5) (hk : k < 2 ^ 31) {word : Nat → Int32} {w : Nat → Nat} (hw : ∀ i, i < L → word i = nI (w i)) (hP : PreN x y (2 * E) L per w) : f_X5_isWanted (nI L) (nI per) (nI k) word v e f s = some (@ite _ (GW x y L w) (Classical.propDecidable _) (if k = 0 then (nI 1, nI 0) else (nI 0, nI (k - 1))) (nI 0, nI k)) := by
  have hl := pre_leaf hP
  have hM := hP.2.2.1
  have hp1 := hP.2.1
  unfold f_X5_isWanted
  by_cases h : per = L
  · rw [if_pos (by rw [h])]
    simp (disch := omega) only [nsub, ginb, ncl, hw (L - 1) (show L - 1 < L by omega), hw 0 (show 0 < L by omega)]
    rw [c_leads hG (hM (L - 1) (by omega)) (hM 0 (by omega)), bd_s]
    by_cases hn : nxt x y (w (L - 1)) (w 0)
    · rw [if_pos hn, if_neg (show ¬ (nI 1 : Int32) = 0 by decide), if_pos (hl.mpr ⟨h, hn⟩)]
      by_cases h3 : k = 0
      · rw [if_pos h3, if_pos (by rw [nle0 hk]; exact h3), h3]
      · rw [if_neg h3, if_neg (by rw [nle0 hk]; exact h3), nsub (by omega)]
    · rw [if_neg hn, if_pos (show (nI 0 : Int32) = 0 by decide), if_neg (fun q => hn (hl.mp q).2)]
  · rw [if_neg (by rw [neq (by omega) (by omega)]; exact h), if_neg (fun q => h (hl.mp q).1)]
def perN (w : Nat → Nat) (pos per j : Nat) : Nat := if pos = 0 then 1 else if j = w (pos - per) then per else pos + 1
theorem c_ext37 (hG : GA v e f s n now 0 a E x y) (Frec : Int32 → Int32 → Int32 → Int32 → (Nat → Int32) → Int32 → Int32 → (Nat → Int32) → (Nat → Int32) → (Nat → Int32) → Option (Int32 × Int32 × (Nat → Int32))) {L pos per j k : Nat} (hL : L ≤ 5) (hp : pos < L) {word : Nat → Int32} {w : Nat → Nat} (hw : ∀ i, i < pos → word i = nI (w i)) (hM : ∀ i, i < pos → w i < 2 * E) (hper : pos = 0 ∨ (1 ≤ per ∧ per ≤ pos)) (hj : j < 2 * E) :
    (0 < pos → ¬ nxt x y (w (pos - 1)) j → b_X5_extend_37 Frec (nI L) (nI pos) (nI per) v e f s n (nI (if pos = 0 then 0 else w (pos - per))) (nI j, nI k, word) = some (.inl (nI (j + 1), nI k, word))) ∧
    ((pos = 0 ∨ nxt x y (w (pos - 1)) j) → b_X5_extend_37 Frec (nI L) (nI pos) (nI per) v e f s n (nI (if pos = 0 then 0 else w (pos - per))) (nI j, nI k, word) = bd (Frec (nI L) (nI (pos + 1)) (nI (perN w pos per j)) (nI k) (upd word pos (nI j)) v e f s n) (fun q => if q.1 = 0 then some (.inl (nI (j + 1), q.2.1, q.2.2)) else some (.inr (.inl (q.2.1, q.2.2))))) := by
  have gE := hG.2.2.1
  have g5 : e = nI E := hG.2.2.2.2.1
  have hne : ¬ nI 2 * e ≤ nI j := by rw [g5, pk_mul, nle (by omega) (by omega)]; omega
  refine ⟨fun h0 hn => ?_, fun hn => ?_⟩
  · unfold b_X5_extend_37
    dsimp only
    rw [if_neg hne, if_neg (show ¬ nI pos ≤ 0 by rw [nle0 (by omega)]; omega)]
    simp (disch := omega) only [nsub, ginb, ncl, hw (pos - 1) (show pos - 1 < pos by omega), nI_add]
    rw [c_leads hG (hM (pos - 1) (by omega)) hj, bd_s, if_neg hn, if_pos (show (nI 0 : Int32) = 0 by decide)]
  · unfold b_X5_extend_37
    dsimp only
    rw [if_neg hne]
    by_cases h0 : pos = 0
    · have hl0 : nI pos ≤ 0 := by rw [nle0 (by omega)]; exact h0
      have hpn : perN w pos per j = pos + 1 := by unfold perN; rw [if_pos h0, h0]
      rw [if_pos hl0, if_pos hl0, bd_s, if_pos (show (nI 0 : Int32) = 0 by decide), bd_s, ginb (by omega) (by omega), ncl (by omega), nI_add, nI_add, hpn]
    · have hl0 : ¬ nI pos ≤ 0 := by rw [nle0 (by omega)]; exact h0
      have hn2 : nxt x y (w (pos - 1)) j := by
        rcases hn with h | h
        · exact absurd h h0
        · exact h
      rw [if_neg hl0, if_neg hl0, if_neg h0]
      simp (disch := omega) only [nsub, ginb, ncl, hw (pos - 1) (show pos - 1 < pos by omega), nI_add]
      have hwp := hM (pos - per) (by omega)
      rw [c_leads hG (hM (pos - 1) (by omega)) hj, bd_s, if_pos hn2, if_neg (show ¬ (nI 1 : Int32) = 0 by decide)]
      by_cases hq : j = w (pos - per)
      · have hpn : perN w pos per j = per := by unfold perN; rw [if_neg h0, if_pos hq]
        rw [if_pos (by rw [hq]), bd_s, if_neg (show ¬ (nI 1 : Int32) = 0 by decide), bd_s, hpn]
      · have hpn : perN w pos per j = pos + 1 := by unfold perN; rw [if_neg h0, if_neg hq]
        rw [if_neg (by rw [neq (by omega) (by omega)]; exact hq), bd_s, if_pos (show (nI 0 : Int32) = 0 by decide), bd_s, hpn]
theorem c_ext (hG : GA v e f s n now 0 a E x y) {L : Nat} (hL1 : 1 ≤ L) (hL : L ≤ 5) : ∀ d, d ≤ L → ∀ fuel, d < fuel → ∀ (k per : Nat) (w : Nat → Nat) (word : Nat → Int32), k < 2 ^ 31 → (∀ i, i < L - d → word i = nI (w i)) → ((L - d = 0 ∧ per = 1) ∨ PreN x y (2 * E) (L - d) per w) →
    (∀ w', srch (GW x y L) (2 * E) L d w k = .inr w' → ∃ r, f_X5_extend fuel (nI L) (nI (L - d)) (nI per) (nI k) word v e f s n = some r ∧ r.1 = nI 1 ∧ ∀ i, i < L → r.2.2 i = nI (w' i)) ∧
    (∀ k', srch (GW x y L) (2 * E) L d w k = .inl k' → k' ≤ k ∧ ∃ r, f_X5_extend fuel (nI L) (nI (L - d)) (nI per) (nI k) word v e f s n = some r ∧ r.1 = nI 0 ∧ r.2.1 = nI k' ∧ ∀ i, i < L - d → r.2.2 i = nI (w i)) := by
  have gE := hG.2.2.1
  have g5 : e = nI E := hG.2.2.2.2.1
  intro d
  induction d with
  | zero =>
    intro _ fuel hfu k per w word hk hw hP
    obtain ⟨F, rfl⟩ : ∃ F, fuel = F + 1 := ⟨fuel - 1, by omega⟩
    have hP : PreN x y (2 * E) L per w := by
      rcases hP with h | h
      · omega
      · exact h
    have hx : f_X5_extend (F + 1) (nI L) (nI (L - 0)) (nI per) (nI k) word v e f s n = bd (f_X5_isWanted (nI L) (nI per) (nI k) word v e f s) (fun q => gd (bq q.1) (some (q.1, q.2, word))) := by
      unfold f_X5_extend
      rw [Nat.sub_zero, if_neg (show ¬ nI L < nI L by rw [nlt (by omega) (by omega)]; omega)]
    rw [hx, c_isWanted hG hL1 hL hk hw hP, bd_s]
    have hs : srch (GW x y L) (2 * E) L 0 w k = @ite (Nat ⊕ (Nat → Nat)) (GW x y L w) (Classical.propDecidable _) (if k = 0 then .inr w else .inl (k - 1)) (.inl k) := rfl
    rw [hs]
    by_cases hg : GW x y L w
    · rw [if_pos hg, if_pos hg]
      by_cases h3 : k = 0
      · rw [if_pos h3, if_pos h3]
        refine ⟨fun w' h => ?_, fun k' h => (by cases h)⟩
        obtain rfl := Sum.inr.inj h
        exact ⟨_, gbq1, rfl, fun i hi => hw i (by omega)⟩
      · rw [if_neg h3, if_neg h3]
        refine ⟨fun w' h => (by cases h), fun k' h => ?_⟩
        obtain rfl := Sum.inl.inj h
        exact ⟨by omega, _, gbq0, rfl, rfl, hw⟩
    · rw [if_neg hg, if_neg hg]
      refine ⟨fun w' h => (by cases h), fun k' h => ?_⟩
      obtain rfl := Sum.inl.inj h
      exact ⟨Nat.le_refl k, _, gbq0, rfl, rfl, hw⟩
  | succ d ihd =>
    intro hd fuel hfu k per w word hk hw hP
    obtain ⟨F, rfl⟩ : ∃ F, fuel = F + 1 := ⟨fuel - 1, by omega⟩
    have ihd := ihd (by omega) F (by omega)
    obtain ⟨pos, hpos⟩ : ∃ pos, pos = L - (d + 1) := ⟨_, rfl⟩
    have hpos2 : L - d = pos + 1 := by omega
    have hpos3 : L - 1 - d = pos := by omega
    rw [← hpos] at hw hP ⊢
    rw [hpos2] at ihd
    have hM : ∀ i, i < pos → w i < 2 * E := fun i hi => by
      rcases hP with h | h
      · omega
      · exact h.2.2.1 i hi
    have hper : pos = 0 ∨ (1 ≤ per ∧ per ≤ pos) := by
      rcases hP with h | h
      · exact Or.inl h.1
      · exact Or.inr ⟨h.1, h.2.1⟩
    have hperb : per ≤ 5 := by
      rcases hP with h | h
      · omega
      · have := h.2.1; omega
    obtain ⟨s0, hs0⟩ : ∃ s0, s0 = if pos = 0 then 0 else w (pos - per) := ⟨_, rfl⟩
    have hs0b : s0 ≤ 2 * E := by
      rw [hs0]
      by_cases h : pos = 0
      · rw [if_pos h]; omega
      · rw [if_neg h]; have := hM (pos - per) (by omega); omega
    have loop : ∀ m j, j + m = 2 * E → s0 ≤ j → ∀ (k : Nat) (word : Nat → Int32), k < 2 ^ 31 → (∀ i, i < pos → word i = nI (w i)) →
        (∀ w', lp (fun j k => srch (GW x y L) (2 * E) L d (upn w pos j) k) m j k = .inr w' → ∃ sk word', wh (b_X5_extend_37 (f_X5_extend F) (nI L) (nI pos) (nI per) v e f s n (nI s0)) (nI j, nI k, word) = some (.inl (sk, word')) ∧ ∀ i, i < L → word' i = nI (w' i)) ∧
        (∀ k', lp (fun j k => srch (GW x y L) (2 * E) L d (upn w pos j) k) m j k = .inl k' → k' ≤ k ∧ ∃ word', wh (b_X5_extend_37 (f_X5_extend F) (nI L) (nI pos) (nI per) v e f s n (nI s0)) (nI j, nI k, word) = some (.inr (nI k', word')) ∧ ∀ i, i < pos → word' i = nI (w i)) := by
      intro m
      induction m with
      | zero =>
        intro j hj hsj k word hk hw
        refine ⟨fun w' h => (by have h : (Sum.inl k : Nat ⊕ (Nat → Nat)) = Sum.inr w' := h; cases h), fun k' h => ?_⟩
        have h : (Sum.inl k : Nat ⊕ (Nat → Nat)) = .inl k' := h
        obtain rfl := Sum.inl.inj h
        refine ⟨Nat.le_refl k, word, wh_inr ?_, hw⟩
        unfold b_X5_extend_37
        dsimp only
        rw [if_pos (show nI 2 * e ≤ nI j by rw [g5, pk_mul, nle (by omega) (by omega)]; omega)]
      | succ m ih =>
        intro j hj hsj k word hk hw
        obtain ⟨t1, t2⟩ := c_ext37 hG (f_X5_extend F) (per := per) (j := j) (k := k) hL (show pos < L by omega) hw hM hper (show j < 2 * E by omega)
        rw [← hs0] at t1 t2
        by_cases hA : 0 < pos ∧ ¬ nxt x y (w (pos - 1)) j
        · have hf : srch (GW x y L) (2 * E) L d (upn w pos j) k = .inl k := srch_none d (by omega) _ (fun w' h => no_next hA.1 (show pos < L by omega) hA.2 w' (fun i hi => h i (by omega))) k
          rw [lp_inl (f := fun j k => srch (GW x y L) (2 * E) L d (upn w pos j) k) hf]
          obtain ⟨i1, i2⟩ := ih (j + 1) (by omega) (by omega) k word hk hw
          have hb := t1 hA.1 hA.2
          refine ⟨fun w' h => ?_, fun k' h => ?_⟩
          · obtain ⟨sk, word', a1, a2⟩ := i1 w' h
            exact ⟨sk, word', wh_inl hb a1, a2⟩
          · obtain ⟨a0, word', a1, a2⟩ := i2 k' h
            exact ⟨a0, word', wh_inl hb a1, a2⟩
        · have hB : pos = 0 ∨ nxt x y (w (pos - 1)) j := by
            by_cases h : pos = 0
            · exact Or.inl h
            · refine Or.inr (Classical.byContradiction (fun q => hA ⟨by omega, q⟩))
          have hb := t2 hB
          have hP2 : PreN x y (2 * E) (pos + 1) (perN w pos per j) (upn w pos j) := by
            by_cases h : pos = 0
            · unfold perN
              rw [if_pos h, h]
              exact pre_one (by omega)
            · unfold perN
              rw [if_neg h]
              rcases hP with h2 | h2
              · exact absurd h2.1 h
              · refine pre_step h2 ?_ ?_ (by omega)
                · rw [hs0, if_neg h] at hsj; exact hsj
                · rcases hB with h3 | h3
                  · exact absurd h3 h
                  · exact h3
          obtain ⟨j1, j2⟩ := ihd k (perN w pos per j) (upn w pos j) (upd word pos (nI j)) hk (fun i hi => by
            by_cases h2 : i = pos
            · rw [h2, upd_self, upn_at]
            · rw [upd_ne h2, upn_lt (by omega), hw i (by omega)]) (Or.inr hP2)
          cases hr : srch (GW x y L) (2 * E) L d (upn w pos j) k with
          | inr w'' =>
            rw [lp_inr (f := fun j k => srch (GW x y L) (2 * E) L d (upn w pos j) k) hr]
            refine ⟨fun w' h => ?_, fun k' h => (by cases h)⟩
            obtain rfl := Sum.inr.inj h
            obtain ⟨⟨r0, r1, r2⟩, a1, a2, a3⟩ := j1 _ hr
            dsimp only at a2 a3
            rw [bd_t a1] at hb
            dsimp only at hb
            rw [a2, if_neg (show ¬ (nI 1 : Int32) = 0 by decide)] at hb
            exact ⟨_, _, wh_inr hb, a3⟩
          | inl k1 =>
            rw [lp_inl (f := fun j k => srch (GW x y L) (2 * E) L d (upn w pos j) k) hr]
            obtain ⟨b0, ⟨r0, r1, r2⟩, a1, a2, a3, a4⟩ := j2 _ hr
            dsimp only at a2 a3 a4
            rw [bd_t a1] at hb
            dsimp only at hb
            rw [a2, if_pos (show (nI 0 : Int32) = 0 by decide), a3] at hb
            obtain ⟨i1, i2⟩ := ih (j + 1) (by omega) (by omega) k1 r2 (by omega) (fun i hi => by rw [a4 i (by omega), upn_lt hi])
            refine ⟨fun w' h => ?_, fun k' h => ?_⟩
            · obtain ⟨sk, word', c1, c2⟩ := i1 w' h
              exact ⟨sk, word', wh_inl hb c1, c2⟩
            · obtain ⟨c0, word', c1, c2⟩ := i2 k' h
              exact ⟨by omega, word', wh_inl hb c1, c2⟩
    have hX : srch (GW x y L) (2 * E) L (d + 1) w k = lp (fun j k => srch (GW x y L) (2 * E) L d (upn w pos j) k) (2 * E - s0) s0 k := by
      show lp (fun j k => srch (GW x y L) (2 * E) L d (upn w (L - 1 - d) j) k) (2 * E) 0 k = _
      rw [hpos3]
      have := lp_skip (f := fun j k => srch (GW x y L) (2 * E) L d (upn w pos j) k) (k := k) s0 (2 * E - s0) 0 (fun i _ hi => srch_none d (by omega) _ (fun w' h => by
        rcases hP with h2 | h2
        · rw [hs0, if_pos h2.1] at hi; omega
        · have hp1 := h2.1
          have hp2 := h2.2.1
          rw [hs0, if_neg (by omega)] at hi
          exact no_small h2 (show pos < L by omega) (by omega) w' (fun i hi => h i (by omega))) k)
      rw [show s0 + (2 * E - s0) = 2 * E by omega, Nat.zero_add] at this
      exact this
    have hx : f_X5_extend (F + 1) (nI L) (nI pos) (nI per) (nI k) word v e f s n = bd (wh (b_X5_extend_37 (f_X5_extend F) (nI L) (nI pos) (nI per) v e f s n (nI s0)) (nI s0, nI k, word)) (fun r => ex2 r (fun r => some (nI 1, r.1, r.2)) (fun r => some (nI 0, r.1, r.2))) := by
      have hj : (if nI pos = 0 then some (nI 0) else gd (inb (nI pos - nI per) 5) (some (word (nI pos - nI per).toNatClampNeg))) = some (nI s0) := by
        by_cases h : pos = 0
        · rw [if_pos (show nI pos = 0 by rw [h]; rfl), hs0, if_pos h]
        · rw [if_neg (show ¬ nI pos = 0 by rw [neq0 (by omega)]; exact h), nsub (by omega), ginb (by omega) (by omega), ncl (by omega), hw _ (by omega), hs0, if_neg h]
      show (if nI pos < nI L then bd (if nI pos = 0 then some (nI 0) else gd (inb (nI pos - nI per) 5) (some (word (nI pos - nI per).toNatClampNeg))) _ else _) = _
      rw [if_pos (show nI pos < nI L by rw [nlt (by omega) (by omega)]; omega), hj, bd_s]
    obtain ⟨l1, l2⟩ := loop (2 * E - s0) s0 (by omega) (Nat.le_refl s0) k word hk hw
    rw [hX]
    refine ⟨fun w' h => ?_, fun k' h => ?_⟩
    · obtain ⟨sk, word', a1, a2⟩ := l1 w' h
      rw [hx, bd_t a1]
      exact ⟨_, rfl, rfl, a2⟩
    · obtain ⟨a0, word', a1, a2⟩ := l2 k' h
      rw [hx, bd_t a1]
      exact ⟨a0, _, rfl, rfl, rfl, a2⟩
theorem c_find (hG : GA v e f s n now 0 a E x y) {L k : Nat} (hL1 : 1 ≤ L) (hL : L ≤ 5) (hk : k < 2 ^ 31) (sk : Int32) (word : Nat → Int32) (w : Nat → Nat) :
    (∀ w', srch (GW x y L) (2 * E) L L w k = .inr w' → ∃ r, f_X5_find (nI L) (nI k) sk word v e f s n = some r ∧ r.1 = nI 1 ∧ ∀ i, i < L → r.2.2 i = nI (w' i)) ∧
    (∀ k', srch (GW x y L) (2 * E) L L w k = .inl k' → ∃ r, f_X5_find (nI L) (nI k) sk word v e f s n = some r ∧ r.1 = nI 0) := by
  obtain ⟨j1, j2⟩ := c_ext hG hL1 hL L (Nat.le_refl L) 7 (by omega) k 1 w word hk (fun i hi => absurd hi (by omega)) (Or.inl ⟨by omega, rfl⟩)
  rw [Nat.sub_self] at j1 j2
  unfold f_X5_find
  refine ⟨fun w' h => ?_, fun k' h => ?_⟩
  · obtain ⟨⟨r0, r1, r2⟩, a1, a2, a3⟩ := j1 w' h
    dsimp only at a2 a3
    rw [bd_t a1]
    dsimp only
    rw [a2, gbq1]
    exact ⟨_, rfl, rfl, a3⟩
  · obtain ⟨-, ⟨r0, r1, r2⟩, a1, a2, -⟩ := j2 k' h
    dsimp only at a2
    rw [bd_t a1]
    dsimp only
    rw [a2, gbq0]
    exact ⟨_, rfl, rfl⟩
end EXT
