theorem upd_self {f : Nat → Int32} {k : Nat} {x : Int32} : upd f k x k = x := by
  rw [upd_at, if_pos rfl]
theorem upd_ne {f : Nat → Int32} {k j : Nat} {x : Int32} (h : j ≠ k) : upd f k x j = f j := by
  rw [upd_at, if_neg h]
section FND
variable {v e : Int32} {f s n now : Nat → Int32} {a E : Nat} {x y : Nat → Nat}
theorem m_firstIn {L r : Nat} (hL : L ≤ 5) (hr : r < L) {walk : Nat → Int32} {w : Nat → Nat} (hw : ∀ i, i < L → walk i = nI (w i)) (hM : ∀ i, i < L → w i < 2 ^ 20) (q : Int32) : ∃ k, k ≤ L ∧ wh (b_X9_isFirst_33 (nI L) walk (nI r, q)) (nI 0) = some (nI k) ∧ (∀ i, i < k → w i = w ((i + r) % L)) ∧ (k < L → w k ≠ w ((k + r) % L)) := by
  have key : ∀ j k, k + j = L → (∀ i, i < k → w i = w ((i + r) % L)) → ∃ k', k' ≤ L ∧ wh (b_X9_isFirst_33 (nI L) walk (nI r, q)) (nI k) = some (nI k') ∧ (∀ i, i < k' → w i = w ((i + r) % L)) ∧ (k' < L → w k' ≠ w ((k' + r) % L)) := by
    intro j
    induction j with
    | zero =>
      intro k hk hi
      refine ⟨k, by omega, wh_inr ?_, hi, fun h => absurd h (by omega)⟩
      unfold b_X9_isFirst_33
      simp (disch := omega) only [nle, if_pos]
    | succ j ih =>
      intro k hk hi
      have hmd : (k + r) % L < L := Nat.mod_lt _ (by omega)
      have e1 : (nI k + nI r) - (nI k + nI r) / nI L * nI L = nI ((k + r) % L) := by
        rw [nI_add]; exact nmod (by omega) (by omega) (by omega)
      have e2 : b_X9_isFirst_33 (nI L) walk (nI r, q) (nI k) = if nI (w k) = nI (w ((k + r) % L)) then some (Sum.inl (nI (k + 1))) else some (Sum.inr (nI k)) := by
        unfold b_X9_isFirst_33
        dsimp only
        rw [e1]
        simp (disch := omega) only [nle, if_neg, gnz, ginb, ncl, nI_add, hw k (show k < L by omega), hw _ hmd]
      by_cases h : w k = w ((k + r) % L)
      · obtain ⟨k', h1, h2, h3, h4⟩ := ih (k + 1) (by omega) (fun i hi2 => by
          by_cases e : i = k
          · rw [e]; exact h
          · exact hi i (by omega))
        refine ⟨k', h1, wh_inl ?_ h2, h3, h4⟩
        rw [e2, if_pos (by rw [h])]
      · refine ⟨k, by omega, wh_inr ?_, hi, fun _ => h⟩
        rw [e2, if_neg (by rw [neq (by have := hM k (by omega); omega) (by have := hM _ hmd; omega)]; exact h)]
  exact key L 0 (by omega) (fun i hi => absurd hi (Nat.not_lt_zero i))
theorem m_isFirst (hG : GA v e f s n now 0 a E x y) {L : Nat} (hL1 : 1 ≤ L) (hL : L ≤ 5) (q1 q2 q3 q4 : Int32) {walk : Nat → Int32} {w : Nat → Nat} (hw : ∀ i, i < L → walk i = nI (w i)) (hM : ∀ i, i < L → w i < 2 * E) : f_X9_isFirst (nI L) q1 q2 q3 q4 now walk = some (@ite _ (fstW x y L w) (Classical.propDecidable _) (nI 1) (nI 0)) := by
  have gE := hG.2.2.1
  unfold f_X9_isFirst
  simp (disch := omega) only [nsub, ginb, ncl, hw (L - 1) (show L - 1 < L by omega), hw 0 (show 0 < L by omega)]
  rw [m_next hG (hM (L - 1) (by omega)) (hM 0 (by omega)), bd_s]
  have key : ∀ j r, r + j = L → 1 ≤ r → ∀ C : Prop, (C ↔ (nxt x y (w (L - 1)) (w 0) ∧ ∀ r', 1 ≤ r' → r' < r → ∃ k, k < L ∧ (∀ i, i < k → w i = w ((i + r') % L)) ∧ w k < w ((k + r') % L))) → wh (b_X9_isFirst_21 (nI L) walk) (nI r, @ite _ C (Classical.propDecidable _) (nI 1) (nI 0)) = some (@ite _ (fstW x y L w) (Classical.propDecidable _) (nI 1) (nI 0)) := by
    intro j
    induction j with
    | zero =>
      intro r hr h1 C hC
      have e : C ↔ fstW x y L w := by
        rw [hC, show r = L by omega]; exact Iff.rfl
      refine wh_inr ?_
      unfold b_X9_isFirst_21
      dsimp only
      rw [if_pos (by rw [nle (by omega) (by omega)]; omega)]
      by_cases h : C
      · rw [if_pos h, if_pos (e.mp h)]
      · rw [if_neg h, if_neg (fun k => h (e.mpr k))]
    | succ j ih =>
      intro r hr h1 C hC
      by_cases h : C
      · obtain ⟨c1, c2⟩ := hC.mp h
        rw [if_pos h]
        obtain ⟨k, k1, k2, k3, k4⟩ := m_firstIn hL (show r < L by omega) hw (fun i hi => by have := hM i hi; omega) (nI 1)
        have hmd : (k + r) % L < L := Nat.mod_lt _ (by omega)
        have e1 : (nI k + nI r) - (nI k + nI r) / nI L * nI L = nI ((k + r) % L) := by
          rw [nI_add]; exact nmod (by omega) (by omega) (by omega)
        have hiff : (∃ k, k < L ∧ (∀ i, i < k → w i = w ((i + r) % L)) ∧ w k < w ((k + r) % L)) ↔ (k < L ∧ w k < w ((k + r) % L)) := by
          constructor
          · rintro ⟨k', a1, a2, a3⟩
            by_cases b1 : k' < k
            · have := k3 k' b1; omega
            · by_cases b2 : k' = k
              · rw [← b2]; exact ⟨a1, a3⟩
              · exact absurd (a2 k (by omega)) (k4 (by omega))
          · rintro ⟨a1, a2⟩
            exact ⟨k, a1, k3, a2⟩
        have hn := ih (r + 1) (by omega) (by omega) (k < L ∧ w k < w ((k + r) % L)) ⟨fun h2 => ⟨c1, fun r' r1 r2 => by
          by_cases e : r' = r
          · rw [e]; exact hiff.mpr h2
          · exact c2 r' r1 (by omega)⟩, fun h2 => hiff.mp (h2.2 r h1 (by omega))⟩
        refine wh_inl ?_ hn
        unfold b_X9_isFirst_21
        dsimp only
        rw [if_neg (by rw [nle (by omega) (by omega)]; omega), if_neg (show ¬ (nI 1 : Int32) = 0 by decide), bd_t k2]
        by_cases hk : k < L
        · have b1 := hM k hk
          have b2 := hM _ hmd
          rw [e1, if_neg (show ¬ nI L ≤ nI k by rw [nle (by omega) (by omega)]; omega)]
          simp (disch := omega) only [ginb, gnz, ncl, hw k hk, hw _ hmd, nI_add]
          by_cases h3 : w ((k + r) % L) ≤ w k
          · rw [if_pos (by rw [nle (by omega) (by omega)]; exact h3), bd_s, if_neg (by omega)]
          · rw [if_neg (by rw [nle (by omega) (by omega)]; exact h3), bd_s, if_pos ⟨hk, by omega⟩]
        · rw [if_pos (show nI L ≤ nI k by rw [nle (by omega) (by omega)]; omega), bd_s, if_neg (fun q => hk q.1), nI_add]
      · rw [if_neg h, if_neg (fun q => h (hC.mpr ⟨q.1, fun r' r1 r2 => q.2 r' r1 (by omega)⟩))]
        refine wh_inr ?_
        unfold b_X9_isFirst_21
        dsimp only
        rw [if_neg (by rw [nle (by omega) (by omega)]; omega), if_pos (show (nI 0 : Int32) = 0 by decide)]
  rw [bd_t (key (L - 1) 1 (by omega) (Nat.le_refl 1) (nxt x y (w (L - 1)) (w 0)) ⟨fun h => ⟨h, fun r' r1 r2 => absurd r1 (by omega)⟩, fun h => h.1⟩)]
  by_cases h : fstW x y L w
  · rw [if_pos h]; exact gbq1
  · rw [if_neg h]; exact gbq0
theorem fS (hG : GA v e f s n now 0 a E x y) {L pos j k : Nat} (hL : L ≤ 5) (hp : pos < L) (hk : k < 2 ^ 31) (q1 q2 q3 q4 : Int32) {walk : Nat → Int32} {w : Nat → Nat} (hw : ∀ i, i < pos → walk i = nI (w i)) (hM : ∀ i, i < pos → w i < 2 * E) (hat : walk pos = nI j - nI 1) :
    (j = 2 * E → b_X9_finds_12 (nI L) q1 q2 q3 q4 now (nI pos, nI k, walk) = some (.inl (nI pos + nI 4294967295, nI k, upd walk pos (nI j)))) ∧
    (j < 2 * E → 0 < pos → ¬ nxt x y (w (pos - 1)) j → b_X9_finds_12 (nI L) q1 q2 q3 q4 now (nI pos, nI k, walk) = some (.inl (nI pos, nI k, upd walk pos (nI j)))) ∧
    (j < 2 * E → (pos = 0 ∨ nxt x y (w (pos - 1)) j) → pos + 1 < L → b_X9_finds_12 (nI L) q1 q2 q3 q4 now (nI pos, nI k, walk) = some (.inl (nI (pos + 1), nI k, upd (upd walk pos (nI j)) (pos + 1) (upd walk pos (nI j) 0 - nI 1)))) ∧
    (j < 2 * E → (pos = 0 ∨ nxt x y (w (pos - 1)) j) → pos + 1 = L → b_X9_finds_12 (nI L) q1 q2 q3 q4 now (nI pos, nI k, walk) = some (@ite _ (fstW x y L (upn w pos j)) (Classical.propDecidable _) (if k = 0 then .inr (.inl (upd walk pos (nI j))) else .inl (nI pos, nI (k - 1), upd walk pos (nI j))) (.inl (nI pos, nI k, upd walk pos (nI j))))) := by
  have gE := hG.2.2.1
  have g7 : now 1 = nI E := hG.2.2.2.2.2.2.1
  have e1 : walk pos + nI 1 = nI j := by rw [hat, Int32.sub_add_cancel]
  have hlt : ¬ nI pos < 0 := nI_pos (by omega)
  refine ⟨fun hj => ?_, fun hj hp0 hn => ?_, fun hj hn hpl => ?_, fun hj hn hpl => ?_⟩
  · unfold b_X9_finds_12
    dsimp only
    rw [if_neg hlt]
    simp (disch := omega) only [ginb, ncl, g7, pk_mul, e1, upd_self]
    rw [if_pos (by rw [hj]), nm_s]
  · unfold b_X9_finds_12
    dsimp only
    rw [if_neg hlt]
    simp (disch := omega) only [ginb, ncl, g7, pk_mul, e1, upd_self]
    rw [if_neg (show ¬ nI j = nI (2 * E) by rw [neq (by omega) (by omega)]; omega), if_neg (show ¬ nI pos = 0 by rw [neq0 (by omega)]; omega)]
    simp (disch := omega) only [nsub, ginb, ncl]
    rw [upd_ne (by omega), hw (pos - 1) (by omega), m_next hG (hM _ (by omega)) hj, bd_s, if_neg hn, if_pos (show (nI 0 : Int32) = 0 by decide)]
  · have hle : ¬ (nI L - nI 1) ≤ nI pos := by rw [nsub (by omega), nle (by omega) (by omega)]; omega
    unfold b_X9_finds_12
    dsimp only
    rw [if_neg hlt]
    simp (disch := omega) only [ginb, ncl, g7, pk_mul, e1, upd_self]
    rw [if_neg (show ¬ nI j = nI (2 * E) by rw [neq (by omega) (by omega)]; omega)]
    by_cases h0 : pos = 0
    · rw [if_pos (show nI pos = 0 by rw [h0]; rfl), if_neg hle, nI_add]
      simp (disch := omega) only [ginb, ncl]
    · rw [if_neg (show ¬ nI pos = 0 by rw [neq0 (by omega)]; omega)]
      have hn2 : nxt x y (w (pos - 1)) j := by
        rcases hn with h | h
        · exact absurd h h0
        · exact h
      rw [nsub (show 1 ≤ pos by omega)]
      simp (disch := omega) only [ginb, ncl]
      rw [upd_ne (show pos - 1 ≠ pos by omega), hw (pos - 1) (by omega), m_next hG (hM _ (by omega)) hj, bd_s, if_pos hn2, if_neg (show ¬ (nI 1 : Int32) = 0 by decide), if_neg hle, nI_add]
      simp (disch := omega) only [ginb, ncl]
  · have hle : (nI L - nI 1) ≤ nI pos := by rw [nsub (by omega), nle (by omega) (by omega)]; omega
    have hfirst := m_isFirst hG (L := L) (by omega) hL q1 q2 q3 q4 (walk := upd walk pos (nI j)) (w := upn w pos j) (fun i hi => by
      by_cases h : i = pos
      · rw [h, upd_self, upn_at]
      · rw [upd_ne h, upn_lt (by omega), hw i (by omega)]) (fun i hi => by
      by_cases h : i = pos
      · rw [h, upn_at]; exact hj
      · rw [upn_lt (by omega)]; exact hM i (by omega))
    have hkk : k ≠ 0 → nI k + nI 4294967295 = nI (k - 1) := fun h => dwn (by omega) hk
    unfold b_X9_finds_12
    dsimp only
    rw [if_neg hlt]
    simp (disch := omega) only [ginb, ncl, g7, pk_mul, e1, upd_self]
    rw [if_neg (show ¬ nI j = nI (2 * E) by rw [neq (by omega) (by omega)]; omega)]
    by_cases h0 : pos = 0
    · rw [if_pos (show nI pos = 0 by rw [h0]; rfl), if_pos hle, hfirst, bd_s]
      by_cases hf : fstW x y L (upn w pos j)
      · rw [if_pos hf, if_pos hf, if_neg (show ¬ (nI 1 : Int32) = 0 by decide)]
        by_cases h3 : k = 0
        · rw [if_pos h3, if_pos (by rw [h3]; rfl)]
        · rw [if_neg h3, if_neg (show ¬ nI k = 0 by rw [neq0 hk]; exact h3), nm_s, hkk h3]
      · rw [if_neg hf, if_neg hf, if_pos (show (nI 0 : Int32) = 0 by decide)]
    · rw [if_neg (show ¬ nI pos = 0 by rw [neq0 (by omega)]; omega)]
      have hn2 : nxt x y (w (pos - 1)) j := by
        rcases hn with h | h
        · exact absurd h h0
        · exact h
      rw [nsub (show 1 ≤ pos by omega)]
      simp (disch := omega) only [ginb, ncl]
      rw [upd_ne (show pos - 1 ≠ pos by omega), hw (pos - 1) (by omega), m_next hG (hM _ (by omega)) hj, bd_s, if_pos hn2, if_neg (show ¬ (nI 1 : Int32) = 0 by decide), if_pos hle, hfirst, bd_s]
      by_cases hf : fstW x y L (upn w pos j)
      · rw [if_pos hf, if_pos hf, if_neg (show ¬ (nI 1 : Int32) = 0 by decide)]
        by_cases h3 : k = 0
        · rw [if_pos h3, if_pos (by rw [h3]; rfl)]
        · rw [if_neg h3, if_neg (show ¬ nI k = 0 by rw [neq0 hk]; exact h3), nm_s, hkk h3]
      · rw [if_neg hf, if_neg hf, if_pos (show (nI 0 : Int32) = 0 by decide)]
theorem fnd (hG : GA v e f s n now 0 a E x y) {L : Nat} (hL : L ≤ 5) (q1 q2 q3 q4 : Int32) : ∀ d, d < L → ∀ m j, j + m = 2 * E → ∀ (k : Nat) (w : Nat → Nat) (walk : Nat → Int32), k < 2 ^ 31 → (∀ i, i < L - 1 - d → walk i = nI (w i)) → (∀ i, i < L - 1 - d → w i < 2 * E) → (∀ i, i + 1 < L - 1 - d → nxt x y (w i) (w (i + 1))) → walk (L - 1 - d) = nI j - nI 1 →
    (∀ w', lp (fun j k => srch (GW x y L) (2 * E) L d (upn w (L - 1 - d) j) k) m j k = .inr w' → ∃ walk', wh (b_X9_finds_12 (nI L) q1 q2 q3 q4 now) (nI (L - 1 - d), nI k, walk) = some (.inl walk') ∧ ∀ i, i < L → walk' i = nI (w' i)) ∧
    (∀ k', lp (fun j k => srch (GW x y L) (2 * E) L d (upn w (L - 1 - d) j) k) m j k = .inl k' → k' ≤ k ∧ ∃ walk', (∀ i, i < L - 1 - d → walk' i = nI (w i)) ∧ ∀ ρ, wh (b_X9_finds_12 (nI L) q1 q2 q3 q4 now) (nI (L - 1 - d) + nI 4294967295, nI k', walk') = some ρ → wh (b_X9_finds_12 (nI L) q1 q2 q3 q4 now) (nI (L - 1 - d), nI k, walk) = some ρ) := by
  have gE := hG.2.2.1
  intro d
  induction d with
  | zero =>
    intro hd m
    obtain ⟨pos, hpos⟩ : ∃ pos, pos = L - 1 - 0 := ⟨_, rfl⟩
    rw [← hpos]
    induction m with
    | zero =>
      intro j hj k w walk hk hw hM hnx hat
      refine ⟨fun w' h => (by have h : (Sum.inl k : Nat ⊕ (Nat → Nat)) = Sum.inr w' := h; cases h), fun k' h => ?_⟩
      have h : (Sum.inl k : Nat ⊕ (Nat → Nat)) = .inl k' := h
      obtain rfl := Sum.inl.inj h
      refine ⟨Nat.le_refl k, upd walk pos (nI j), fun i hi => by rw [upd_ne (by omega), hw i hi], fun ρ hρ => wh_inl ((fS hG hL (by omega) hk q1 q2 q3 q4 hw hM hat).1 (by omega)) hρ⟩
    | succ m ih =>
      intro j hj k w walk hk hw hM hnx hat
      obtain ⟨-, s2, -, s4⟩ := fS hG hL (show pos < L by omega) hk q1 q2 q3 q4 hw hM hat
      have hw1 : ∀ i, i < pos → upd walk pos (nI j) i = nI (w i) := fun i hi => by rw [upd_ne (by omega), hw i hi]
      have hat1 : upd walk pos (nI j) pos = nI (j + 1) - nI 1 := by rw [upd_self, nsub (by omega)]; rfl
      by_cases hA : 0 < pos ∧ ¬ nxt x y (w (pos - 1)) j
      · have hf : srch (GW x y L) (2 * E) L 0 (upn w pos j) k = .inl k := srch_none 0 (by omega) _ (fun w' h => no_next hA.1 (show pos < L by omega) hA.2 w' (fun i hi => h i (by omega))) k
        rw [lp_inl (f := fun j k => srch (GW x y L) (2 * E) L 0 (upn w pos j) k) hf]
        obtain ⟨i1, i2⟩ := ih (j + 1) (by omega) k w (upd walk pos (nI j)) hk hw1 hM hnx hat1
        have hb := s2 (by omega) hA.1 hA.2
        refine ⟨fun w' h => ?_, fun k' h => ?_⟩
        · obtain ⟨walk', a1, a2⟩ := i1 w' h
          exact ⟨walk', wh_inl hb a1, a2⟩
        · obtain ⟨a0, walk', a1, a2⟩ := i2 k' h
          exact ⟨a0, walk', a1, fun ρ hρ => wh_inl hb (a2 ρ hρ)⟩
      · have hB : pos = 0 ∨ nxt x y (w (pos - 1)) j := by
          by_cases h : pos = 0
          · exact Or.inl h
          · refine Or.inr (Classical.byContradiction (fun q => hA ⟨by omega, q⟩))
        have hb := s4 (by omega) hB (by omega)
        have hGW : GW x y L (upn w pos j) ↔ fstW x y L (upn w pos j) := by
          refine ⟨fun h => h.2, fun h => ⟨fun i hi => ?_, h⟩⟩
          by_cases h2 : i + 1 = pos
          · rw [h2, upn_at, upn_lt (by omega), show i = pos - 1 by omega]
            rcases hB with h3 | h3
            · omega
            · exact h3
          · rw [upn_lt (by omega), upn_lt (by omega)]; exact hnx i (by omega)
        by_cases hf : fstW x y L (upn w pos j)
        · rw [if_pos hf] at hb
          by_cases hk0 : k = 0
          · have hs : srch (GW x y L) (2 * E) L 0 (upn w pos j) k = .inr (upn w pos j) := by
              show @ite (Nat ⊕ (Nat → Nat)) (GW x y L (upn w pos j)) (Classical.propDecidable _) (if k = 0 then .inr (upn w pos j) else .inl (k - 1)) (.inl k) = _
              rw [if_pos (hGW.mpr hf), if_pos hk0]
            rw [lp_inr (f := fun j k => srch (GW x y L) (2 * E) L 0 (upn w pos j) k) hs]
            rw [if_pos hk0] at hb
            refine ⟨fun w' h => ?_, fun k' h => (by cases h)⟩
            obtain rfl := Sum.inr.inj h
            refine ⟨_, wh_inr hb, fun i hi => ?_⟩
            by_cases h2 : i = pos
            · rw [h2, upd_self, upn_at]
            · rw [upd_ne h2, upn_lt (by omega), hw i (by omega)]
          · have hs : srch (GW x y L) (2 * E) L 0 (upn w pos j) k = .inl (k - 1) := by
              show @ite (Nat ⊕ (Nat → Nat)) (GW x y L (upn w pos j)) (Classical.propDecidable _) (if k = 0 then .inr (upn w pos j) else .inl (k - 1)) (.inl k) = _
              rw [if_pos (hGW.mpr hf), if_neg hk0]
            rw [lp_inl (f := fun j k => srch (GW x y L) (2 * E) L 0 (upn w pos j) k) hs]
            rw [if_neg hk0] at hb
            obtain ⟨i1, i2⟩ := ih (j + 1) (by omega) (k - 1) w (upd walk pos (nI j)) (by omega) hw1 hM hnx hat1
            refine ⟨fun w' h => ?_, fun k' h => ?_⟩
            · obtain ⟨walk', a1, a2⟩ := i1 w' h
              exact ⟨walk', wh_inl hb a1, a2⟩
            · obtain ⟨a0, walk', a1, a2⟩ := i2 k' h
              exact ⟨by omega, walk', a1, fun ρ hρ => wh_inl hb (a2 ρ hρ)⟩
        · rw [if_neg hf] at hb
          have hs : srch (GW x y L) (2 * E) L 0 (upn w pos j) k = .inl k := by
            show @ite (Nat ⊕ (Nat → Nat)) (GW x y L (upn w pos j)) (Classical.propDecidable _) (if k = 0 then .inr (upn w pos j) else .inl (k - 1)) (.inl k) = _
            rw [if_neg (fun q => hf (hGW.mp q))]
          rw [lp_inl (f := fun j k => srch (GW x y L) (2 * E) L 0 (upn w pos j) k) hs]
          obtain ⟨i1, i2⟩ := ih (j + 1) (by omega) k w (upd walk pos (nI j)) hk hw1 hM hnx hat1
          refine ⟨fun w' h => ?_, fun k' h => ?_⟩
          · obtain ⟨walk', a1, a2⟩ := i1 w' h
            exact ⟨walk', wh_inl hb a1, a2⟩
          · obtain ⟨a0, walk', a1, a2⟩ := i2 k' h
            exact ⟨a0, walk', a1, fun ρ hρ => wh_inl hb (a2 ρ hρ)⟩
  | succ d ihd =>
    intro hd m
    have ihd := ihd (by omega)
    obtain ⟨pos, hpos⟩ : ∃ pos, pos = L - 1 - (d + 1) := ⟨_, rfl⟩
    have hpos2 : L - 1 - d = pos + 1 := by omega
    rw [← hpos]
    rw [hpos2] at ihd
    induction m with
    | zero =>
      intro j hj k w walk hk hw hM hnx hat
      refine ⟨fun w' h => (by have h : (Sum.inl k : Nat ⊕ (Nat → Nat)) = Sum.inr w' := h; cases h), fun k' h => ?_⟩
      have h : (Sum.inl k : Nat ⊕ (Nat → Nat)) = .inl k' := h
      obtain rfl := Sum.inl.inj h
      refine ⟨Nat.le_refl k, upd walk pos (nI j), fun i hi => by rw [upd_ne (by omega), hw i hi], fun ρ hρ => wh_inl ((fS hG hL (by omega) hk q1 q2 q3 q4 hw hM hat).1 (by omega)) hρ⟩
    | succ m ih =>
      intro j hj k w walk hk hw hM hnx hat
      obtain ⟨-, s2, s3, -⟩ := fS hG hL (show pos < L by omega) hk q1 q2 q3 q4 hw hM hat
      have hw1 : ∀ i, i < pos → upd walk pos (nI j) i = nI (w i) := fun i hi => by rw [upd_ne (by omega), hw i hi]
      have hat1 : upd walk pos (nI j) pos = nI (j + 1) - nI 1 := by rw [upd_self, nsub (by omega)]; rfl
      by_cases hA : 0 < pos ∧ ¬ nxt x y (w (pos - 1)) j
      · have hf : srch (GW x y L) (2 * E) L (d + 1) (upn w pos j) k = .inl k := srch_none (d + 1) (by omega) _ (fun w' h => no_next hA.1 (show pos < L by omega) hA.2 w' (fun i hi => h i (by omega))) k
        rw [lp_inl (f := fun j k => srch (GW x y L) (2 * E) L (d + 1) (upn w pos j) k) hf]
        obtain ⟨i1, i2⟩ := ih (j + 1) (by omega) k w (upd walk pos (nI j)) hk hw1 hM hnx hat1
        have hb := s2 (by omega) hA.1 hA.2
        refine ⟨fun w' h => ?_, fun k' h => ?_⟩
        · obtain ⟨walk', a1, a2⟩ := i1 w' h
          exact ⟨walk', wh_inl hb a1, a2⟩
        · obtain ⟨a0, walk', a1, a2⟩ := i2 k' h
          exact ⟨a0, walk', a1, fun ρ hρ => wh_inl hb (a2 ρ hρ)⟩
      · have hB : pos = 0 ∨ nxt x y (w (pos - 1)) j := by
          by_cases h : pos = 0
          · exact Or.inl h
          · refine Or.inr (Classical.byContradiction (fun q => hA ⟨by omega, q⟩))
        have hb := s3 (by omega) hB (by omega)
        have hl0 : upn w pos j 0 < 2 * E := by
          by_cases h : pos = 0
          · rw [h, upn_at]; omega
          · rw [upn_lt (by omega)]; exact hM 0 (by omega)
        have hu : ∀ i, i < pos + 1 → upd walk pos (nI j) i = nI (upn w pos j i) := fun i hi => by
          by_cases h2 : i = pos
          · rw [h2, upd_self, upn_at]
          · rw [upd_ne h2, upn_lt (by omega), hw i (by omega)]
        have hX : srch (GW x y L) (2 * E) L (d + 1) (upn w pos j) k = lp (fun j' k => srch (GW x y L) (2 * E) L d (upn (upn w pos j) (pos + 1) j') k) (2 * E - upn w pos j 0) (upn w pos j 0) k := by
          show lp (fun j' k => srch (GW x y L) (2 * E) L d (upn (upn w pos j) (L - 1 - d) j') k) (2 * E) 0 k = _
          rw [hpos2]
          have := lp_skip (f := fun j' k => srch (GW x y L) (2 * E) L d (upn (upn w pos j) (pos + 1) j') k) (k := k) (upn w pos j 0) (2 * E - upn w pos j 0) 0 (fun i _ hi => srch_none d (by omega) _ (fun w' h => no_first (show 0 < pos + 1 by omega) (show pos + 1 < L by omega) (show i < upn w pos j 0 by omega) w' (fun i hi => h i (by omega))) k)
          rw [show upn w pos j 0 + (2 * E - upn w pos j 0) = 2 * E by omega, Nat.zero_add] at this
          exact this
        obtain ⟨j1, j2⟩ := ihd (2 * E - upn w pos j 0) (upn w pos j 0) (by omega) k (upn w pos j) (upd (upd walk pos (nI j)) (pos + 1) (upd walk pos (nI j) 0 - nI 1)) hk (fun i hi => by rw [upd_ne (by omega)]; exact hu i hi) (fun i hi => by
          by_cases h2 : i = pos
          · rw [h2, upn_at]; omega
          · rw [upn_lt (by omega)]; exact hM i (by omega)) (fun i hi => by
          by_cases h2 : i + 1 = pos
          · rw [h2, upn_at, upn_lt (by omega), show i = pos - 1 by omega]
            rcases hB with h3 | h3
            · omega
            · exact h3
          · rw [upn_lt (by omega), upn_lt (by omega)]; exact hnx i (by omega)) (by rw [upd_self, hu 0 (by omega)])
        rw [← hX] at j1 j2
        cases hr : srch (GW x y L) (2 * E) L (d + 1) (upn w pos j) k with
        | inr w'' =>
          rw [lp_inr (f := fun j k => srch (GW x y L) (2 * E) L (d + 1) (upn w pos j) k) hr]
          refine ⟨fun w' h => ?_, fun k' h => (by cases h)⟩
          obtain rfl := Sum.inr.inj h
          obtain ⟨walk', a1, a2⟩ := j1 _ hr
          exact ⟨walk', wh_inl hb a1, a2⟩
        | inl k1 =>
          rw [lp_inl (f := fun j k => srch (GW x y L) (2 * E) L (d + 1) (upn w pos j) k) hr]
          obtain ⟨b0, walk1, b1, b2⟩ := j2 _ hr
          rw [dwn (show 1 ≤ pos + 1 by omega) (by omega), show pos + 1 - 1 = pos from rfl] at b2
          obtain ⟨i1, i2⟩ := ih (j + 1) (by omega) k1 w walk1 (by omega) (fun i hi => by rw [b1 i (by omega), upn_lt hi]) hM hnx (by rw [b1 pos (by omega), upn_at, nsub (by omega)]; rfl)
          refine ⟨fun w' h => ?_, fun k' h => ?_⟩
          · obtain ⟨walk', a1, a2⟩ := i1 w' h
            exact ⟨walk', wh_inl hb (b2 _ a1), a2⟩
          · obtain ⟨a0, walk', a1, a2⟩ := i2 k' h
            exact ⟨by omega, walk', a1, fun ρ hρ => wh_inl hb (b2 _ (a2 ρ hρ))⟩
theorem m_finds (hG : GA v e f s n now 0 a E x y) {L k : Nat} (hL1 : 1 ≤ L) (hL : L ≤ 5) (hk : k < 2 ^ 31) (q1 q2 q3 q4 : Int32) (walk : Nat → Int32) (w : Nat → Nat) :
    (∀ w', srch (GW x y L) (2 * E) L L w k = .inr w' → ∃ r, f_X9_finds (nI L) (nI k) q1 q2 q3 q4 now walk = some r ∧ r.1 = nI 1 ∧ ∀ i, i < L → r.2 i = nI (w' i)) ∧
    (∀ k', srch (GW x y L) (2 * E) L L w k = .inl k' → ∃ r, f_X9_finds (nI L) (nI k) q1 q2 q3 q4 now walk = some r ∧ r.1 = nI 0) := by
  obtain ⟨l, rfl⟩ : ∃ l, L = l + 1 := ⟨L - 1, by omega⟩
  have hp : l + 1 - 1 - l = 0 := by omega
  have hs : srch (GW x y (l + 1)) (2 * E) (l + 1) (l + 1) w k = lp (fun j k => srch (GW x y (l + 1)) (2 * E) (l + 1) l (upn w (l + 1 - 1 - l) j) k) (2 * E) 0 k := rfl
  have hm1 : (nI 4294967295 : Int32) = nI 0 - nI 1 := by decide
  obtain ⟨j1, j2⟩ := fnd hG hL q1 q2 q3 q4 l (by omega) (2 * E) 0 (by omega) k w (upd walk 0 (nI 4294967295)) hk (fun i hi => absurd hi (by omega)) (fun i hi => absurd hi (by omega)) (fun i hi => absurd hi (by omega)) (by rw [hp, upd_self, hm1])
  rw [← hs, hp] at j1 j2
  unfold f_X9_finds
  simp (disch := omega) only [ginb, ncl]
  refine ⟨fun w' h => ?_, fun k' h => ?_⟩
  · obtain ⟨walk', a1, a2⟩ := j1 w' h
    rw [bd_t a1]
    exact ⟨_, rfl, rfl, a2⟩
  · obtain ⟨-, walk', -, a2⟩ := j2 k' h
    have hend : wh (b_X9_finds_12 (nI (l + 1)) q1 q2 q3 q4 now) (nI 0 + nI 4294967295, nI k', walk') = some (.inr walk') := by
      refine wh_inr ?_
      unfold b_X9_finds_12
      dsimp only
      rw [if_pos (show nI 0 + nI 4294967295 < 0 by decide)]
    rw [bd_t (a2 _ hend)]
    exact ⟨_, rfl, rfl⟩
end FND
