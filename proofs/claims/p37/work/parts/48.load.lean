theorem wh_rel {σ τ ρ υ : Type} {b1 : σ → Option (σ ⊕ ρ)} {b2 : τ → Option (τ ⊕ υ)} (P : Nat → σ → τ → Prop) (Q : ρ → υ → Prop) (n : Nat) (hs : ∀ i s t, i < n → P i s t → (∃ s' t', b1 s = some (.inl s') ∧ b2 t = some (.inl t') ∧ P (i + 1) s' t') ∨ (∃ r1 r2, b1 s = some (.inr r1) ∧ b2 t = some (.inr r2) ∧ Q r1 r2)) (he : ∀ s t, P n s t → ∃ r1 r2, b1 s = some (.inr r1) ∧ b2 t = some (.inr r2) ∧ Q r1 r2) : ∀ i s t, i ≤ n → P i s t → ∃ r1 r2, wh b1 s = some r1 ∧ wh b2 t = some r2 ∧ Q r1 r2 := by
  have : ∀ k i s t, i + k = n → P i s t → ∃ r1 r2, wh b1 s = some r1 ∧ wh b2 t = some r2 ∧ Q r1 r2 := by
    intro k
    induction k with
    | zero =>
      intro i s t h hp
      obtain rfl : i = n := by omega
      obtain ⟨r1, r2, e1, e2, q⟩ := he s t hp
      exact ⟨r1, r2, wh_inr e1, wh_inr e2, q⟩
    | succ k ih =>
      intro i s t h hp
      rcases hs i s t (by omega) hp with ⟨s', t', e1, e2, hp'⟩ | ⟨r1, r2, e1, e2, q⟩
      · obtain ⟨r1, r2, f1, f2, q⟩ := ih (i + 1) s' t' (by omega) hp'
        exact ⟨r1, r2, wh_inl e1 f1, wh_inl e2 f2, q⟩
      · exact ⟨r1, r2, wh_inr e1, wh_inr e2, q⟩
  exact fun i s t hi hp => this (n - i) i s t (by omega) hp
/-- what the class's reader and the reference's have read alike: stage q, the edges so far, and the parts of the edge under way -/
def RD (a : Nat) (q : Nat) (f1 f2 sg : Int32) (e : Int32) (f s n read : Nat → Int32) : Prop := ∃ (E : Nat) (x y : Nat → Nat), GA (nI a) e f s n read 0 a E x y ∧ q < 4 ∧ (1 ≤ q → E < 9 ∧ ∃ u, u < a ∧ f1 = nI u ∧ read (2 + 3 * E) = nI u ∧ (2 ≤ q → (sg = nI 1 ∨ sg = nI 4294967295) ∧ read (2 + 3 * E + 2) = sg ∧ (3 ≤ q → ∃ w, w < a ∧ w ≠ u ∧ f2 = nI w ∧ read (2 + 3 * E + 1) = nI w)))
theorem GA_read {a E : Nat} {e : Int32} {f s n read : Nat → Int32} {x y : Nat → Nat} (h : GA (nI a) e f s n read 0 a E x y) {i : Nat} (hi : 2 + 3 * E ≤ i) (z : Int32) : GA (nI a) e f s n (upd read i z) 0 a E x y := by
  obtain ⟨g1, g2, g3, g4, g5, g6, g7, g8⟩ := h
  refine ⟨g1, g2, g3, g4, g5, ?_, ?_, fun k hk => ?_⟩
  · rw [upd_at, if_neg (by omega)]; exact g6
  · rw [upd_at, if_neg (by omega)]; exact g7
  · rw [upd_at, if_neg (by omega), upd_at, if_neg (by omega), upd_at, if_neg (by omega)]; exact g8 k hk
theorem RD_step {a q : Nat} {f1 f2 sg e : Int32} {f s n read now : Nat → Int32} (ha : now 0 = nI a) (h : RD a q f1 f2 sg e f s n read) (c : Int32) (len sv lt sz : Int32) :
    (∃ (r1 : Int32 × Int32 × Int32 × Int32 × Int32 × (Nat → Int32) × (Nat → Int32) × (Nat → Int32)), f_X1_accept c len (nI q) f1 f2 sg (nI a) e f s n = some (nI 0, r1) ∧ (read 1 = nI 9 ∨ (¬ read 1 = nI 9 ∧ ∃ rd, f_X9_takes c sv lt (nI q) sz now read = some (nI 0, rd)))) ∨
    (∃ (q' : Nat) (f1' f2' sg' e' : Int32) (f' s' n' rd : Nat → Int32), f_X1_accept c len (nI q) f1 f2 sg (nI a) e f s n = some (nI 1, nI q', f1', f2', sg', e', f', s', n') ∧ ¬ read 1 = nI 9 ∧ f_X9_takes c sv lt (nI q) sz now read = some (nI 1, rd) ∧ q' = (if q = 3 then 0 else q + 1) ∧ RD a q' f1' f2' sg' e' f' s' n' (upd rd 1 (rd 1 + if q = 3 then nI 1 else nI 0))) := by
  obtain ⟨E, x, y, hG, hq, hp⟩ := h
  obtain ⟨g1, g2, g3, g4, g5, g6, g7, g8⟩ := id hG
  rw [Nat.zero_add] at g7
  have z0 : (nI 0 : Int32) = 0 := by decide
  have z1 : ¬ (nI 1 : Int32) = 0 := by decide
  have q10 : ¬ (nI 1 : Int32) = nI 0 := by decide
  have q20 : ¬ (nI 2 : Int32) = nI 0 := by decide
  have q21 : ¬ (nI 2 : Int32) = nI 1 := by decide
  have q30 : ¬ (nI 3 : Int32) = nI 0 := by decide
  have q31 : ¬ (nI 3 : Int32) = nI 1 := by decide
  have q32 : ¬ (nI 3 : Int32) = nI 2 := by decide
  have bq0 : bq (nI 0) = true := by decide
  have bq1 : bq (nI 1) = true := by decide
  subst g5
  have n9 : E < 9 → ¬ nI E = nI 9 := by
    intro hE
    rw [neq (by omega) (by omega)]
    omega
  have v1 : ∀ p sv lt st sz, f_X9_isVertex p sv lt st sz now = some (rng p a) := fun p sv lt st sz => m_isVertex (show a < 2 ^ 30 by omega) ha
  have v2 : ∀ p e, f_X2_hasVertex p (nI a) e = some (rng p a) := fun p e => c_hasVertex (by omega)
  have hu1 : ∀ (rd : Nat → Int32) (v : Int32), rd 1 = v → upd rd 1 (rd 1 + nI 0) = rd := by
    intro rd v h
    funext k
    rw [upd_at]
    by_cases e : k = 1
    · subst e; rw [if_pos rfl, nI_0, Int32.add_zero]
    · rw [if_neg e]
  have hq4 : q = 0 ∨ q = 1 ∨ q = 2 ∨ q = 3 := by omega
  rcases hq4 with rfl | rfl | rfl | rfl
  · unfold f_X1_accept f_X1_acceptFirst
    rw [if_pos rfl, c_isFull g3, bd_s]
    by_cases hE : E < 9
    · rw [if_pos hE, if_pos z0, v2, bd_s, g7]
      unfold f_X9_takes
      simp (disch := omega) only [ginb, ncl, nm_s, pk_mul, nI_add, g7, upd_at, if_neg, if_pos, nle, v1, bd_s]
      rcases rng_cases (c - nI 48) (n := a) (by omega) with hr | ⟨hr, u, hu, hcu⟩
      · left
        simp only [hr, if_pos z0, bd_s, gd_t bq0]
        exact ⟨_, rfl, Or.inr ⟨n9 hE, _, rfl⟩⟩
      · right
        simp only [hr, if_neg z1, bd_s, gd_t bq1]
        refine ⟨1, _, _, _, _, _, _, _, _, rfl, n9 hE, rfl, rfl, ?_⟩
        rw [hu1 _ _ rfl]
        refine ⟨E, x, y, GA_read hG (by omega) _, by omega, fun _ => ⟨hE, u, hu, hcu, ?_, fun h => absurd h (by omega)⟩⟩
        rw [upd_at, if_pos rfl]; exact hcu
    · left
      rw [if_neg hE, if_neg z1, bd_s, gd_t bq0]
      refine ⟨_, rfl, Or.inl ?_⟩
      rw [g7, show E = 9 by omega]
  · obtain ⟨hE, u, hu, hf1, hru, -⟩ := hp (by omega)
    unfold f_X1_accept f_X1_acceptSign f_X9_takes
    simp (disch := omega) only [ginb, ncl, nm_s, pk_mul, nI_add, g7, if_neg q10, if_pos]
    by_cases h45 : c = nI 45
    · right
      simp only [if_pos h45, bd_s, gd_t bq1]
      refine ⟨2, _, _, _, _, _, _, _, _, rfl, n9 hE, rfl, rfl, ?_⟩
      rw [if_neg (show ¬ (1 : Nat) = 3 by decide), hu1 _ _ rfl]
      refine ⟨E, x, y, GA_read hG (by omega) _, by omega, fun _ => ⟨hE, u, hu, hf1, ?_, fun _ => ⟨Or.inl rfl, ?_, fun h => absurd h (by omega)⟩⟩⟩
      · rw [upd_at, if_neg (by omega)]; exact hru
      · rw [upd_at, if_pos rfl]
    · by_cases h126 : c = nI 126
      · right
        simp only [if_neg h45, if_pos h126, bd_s, gd_t bq1]
        refine ⟨2, _, _, _, _, _, _, _, _, rfl, n9 hE, rfl, rfl, ?_⟩
        rw [if_neg (show ¬ (1 : Nat) = 3 by decide), hu1 _ _ rfl]
        refine ⟨E, x, y, GA_read hG (by omega) _, by omega, fun _ => ⟨hE, u, hu, hf1, ?_, fun _ => ⟨Or.inr rfl, ?_, fun h => absurd h (by omega)⟩⟩⟩
        · rw [upd_at, if_neg (by omega)]; exact hru
        · rw [upd_at, if_pos rfl]
      · left
        simp only [if_neg h45, if_neg h126, bd_s, gd_t bq0]
        exact ⟨_, rfl, Or.inr ⟨n9 hE, _, rfl⟩⟩
  · obtain ⟨hE, u, hu, hf1, hru, hp2⟩ := hp (by omega)
    obtain ⟨hsg, hrs, -⟩ := hp2 (by omega)
    unfold f_X1_accept f_X1_acceptSecond f_X9_takes
    simp (disch := omega) only [ginb, ncl, nm_s, pk_mul, nI_add, g7, if_neg q20, if_neg q21, v1, v2, bd_s, upd_at, if_neg, if_pos, hru, hf1]
    rcases rng_cases (c - nI 48) (n := a) (by omega) with hr | ⟨hr, w, hw, hcw⟩
    · left
      have hcu : ¬ c - nI 48 = nI u := by
        intro h
        rw [h, rng_in hu (by omega)] at hr
        exact absurd hr (by decide)
      simp only [hr, if_neg hcu, if_pos z0, bd_s, gd_t bq0]
      exact ⟨_, rfl, Or.inr ⟨n9 hE, _, rfl⟩⟩
    · by_cases hwu : w = u
      · left
        subst hwu
        simp only [hr, if_pos hcw, if_pos hcw.symm, if_neg z1, bd_s, gd_t bq0]
        exact ⟨_, rfl, Or.inr ⟨n9 hE, _, rfl⟩⟩
      · right
        have e1 : ¬ c - nI 48 = nI u := by rw [hcw, neq (by omega) (by omega)]; exact hwu
        have e2 : ¬ nI u = c - nI 48 := fun h => e1 h.symm
        simp only [hr, if_neg e1, if_neg e2, if_neg z1, bd_s, gd_t bq1]
        refine ⟨3, _, _, _, _, _, _, _, _, rfl, n9 hE, rfl, rfl, ?_⟩
        rw [hu1 _ _ rfl]
        refine ⟨E, x, y, GA_read hG (by omega) _, by omega, fun _ => ⟨hE, u, hu, rfl, ?_, fun _ => ⟨hsg, ?_, fun _ => ⟨w, hw, hwu, hcw, ?_⟩⟩⟩⟩
        · rw [upd_at, if_neg (by omega)]; exact hru
        · rw [upd_at, if_neg (by omega)]; exact hrs
        · rw [upd_at, if_pos rfl]; exact hcw
  · obtain ⟨hE, u, hu, hf1, hru, hp2⟩ := hp (by omega)
    obtain ⟨hsg, hrs, hp3⟩ := hp2 (by omega)
    obtain ⟨w, hw, hwu, hf2, hrw⟩ := hp3 (by omega)
    unfold f_X1_accept f_X1_acceptEnd f_X9_takes
    simp (disch := omega) only [ginb, ncl, nm_s, pk_mul, nI_add, g7, if_neg q30, if_neg q31, if_neg q32]
    by_cases h59 : c = nI 59
    · right
      simp only [if_pos h59, c_append hE, bd_s, gd_t bq1]
      refine ⟨0, _, _, _, _, _, _, _, _, rfl, n9 hE, rfl, rfl, ?_⟩
      rw [if_pos trivial, g7, nI_add]
      obtain ⟨x', y', hG'⟩ : ∃ x' y', GA (nI a) (nI (E + 1)) (upd f E f1) (upd s E f2) (upd n E sg) (upd read 1 (nI (E + 1))) 0 a (E + 1) x' y' := by
        have hg := gr_app hG hE hu hw (fun h => hwu h.symm) hsg
        have er : upd (upd (upd (upd read (2 + 3 * E) (nI u)) (2 + 3 * E + 1) (nI w)) (2 + 3 * E + 2) sg) 1 (nI (E + 1)) = upd read 1 (nI (E + 1)) := by
          funext k
          simp only [upd_at]
          by_cases k1 : k = 1
          · rw [if_pos k1, if_pos k1]
          rw [if_neg k1, if_neg k1]
          by_cases k2 : k = 2 + 3 * E + 2
          · rw [if_pos k2, k2]; exact hrs.symm
          rw [if_neg k2]
          by_cases k3 : k = 2 + 3 * E + 1
          · rw [if_pos k3, k3]; exact hrw.symm
          rw [if_neg k3]
          by_cases k4 : k = 2 + 3 * E
          · rw [if_pos k4, k4]; exact hru.symm
          rw [if_neg k4]
        rw [er, ← hf1, ← hf2] at hg
        obtain ⟨a', E', x', y', hh⟩ := gr_GA hg
        obtain ⟨q1, q2, q3, q4, q5, q6, q7, q8⟩ := id hh
        obtain rfl : a = a' := (neq (show a < 2 ^ 31 by omega) (show a' < 2 ^ 31 by omega)).mp q4
        obtain rfl : E + 1 = E' := (neq (show E + 1 < 2 ^ 31 by omega) (show E' < 2 ^ 31 by omega)).mp q5
        exact ⟨x', y', hh⟩
      exact ⟨E + 1, x', y', hG', by omega, fun h => absurd h (by omega)⟩
    · left
      simp only [if_neg h59, bd_s, gd_t bq0]
      exact ⟨_, rfl, Or.inr ⟨n9 hE, _, rfl⟩⟩
theorem stg {q : Nat} (hq : q < 4) : (nI q + nI 1) - (nI q + nI 1) / (nI 4) * (nI 4) = nI (if q = 3 then 0 else q + 1) := by
  have h : q = 0 ∨ q = 1 ∨ q = 2 ∨ q = 3 := by omega
  rcases h with rfl | rfl | rfl | rfl <;> decide
theorem stj {q : Nat} (hq : q < 4) : (if nI (if q = 3 then 0 else q + 1) = (0 : Int32) then some (nI 1) else some (nI 0)) = some (if q = 3 then nI 1 else nI 0) := by
  have h : q = 0 ∨ q = 1 ∨ q = 2 ∨ q = 3 := by omega
  rcases h with rfl | rfl | rfl | rfl <;> rfl
theorem read_rel {a t : Nat} {ch tx now : Nat → Int32} (ht : t ≤ 60) (hc : ∀ k, k < t → ch k = tx k) (ha : now 0 = nI a) (sv sz : Int32) (f1 f2 sg e : Int32) (f s n read : Nat → Int32) (h0 : RD a 0 f1 f2 sg e f s n read) :
    ∃ r1 r2, wh (b_X1_readInto_7 (nI t) ch (nI a)) (nI 0, nI 0, f1, f2, sg, e, f, s, n) = some r1 ∧ wh (b_X9_reads_26 sv (nI t) sz now tx) (nI 0, nI 0, read) = some r2 ∧
      ((∃ i x y, i < 60 ∧ r1 = Sum.inl (nI i, x) ∧ r2 = Sum.inl (nI i, y)) ∨ ∃ q f1' f2' sg' e' f' s' n' read', r1 = Sum.inr (nI q, f1', f2', sg', e', f', s', n') ∧ r2 = Sum.inr (nI q, read') ∧ RD a q f1' f2' sg' e' f' s' n' read') := by
  have z0 : (nI 0 : Int32) = 0 := by decide
  have z1 : ¬ (nI 1 : Int32) = 0 := by decide
  refine wh_rel (fun i z w => ∃ q f1' f2' sg' e' f' s' n' read', z = (nI i, nI q, f1', f2', sg', e', f', s', n') ∧ w = (nI i, nI q, read') ∧ RD a q f1' f2' sg' e' f' s' n' read') _ t (fun i z w hi hp => ?_) (fun z w hp => ?_) 0 _ _ (by omega) ⟨0, _, _, _, _, _, _, _, _, rfl, rfl, h0⟩
  · obtain ⟨q, f1', f2', sg', e', f', s', n', read', rfl, rfl, hR⟩ := hp
    unfold b_X1_readInto_7 b_X9_reads_26
    simp (disch := omega) only [nle, if_neg, ginb, ncl, nm_s]
    rw [hc i hi]
    by_cases h32 : tx i = nI 32
    · left
      simp only [if_pos h32, nI_add]
      exact ⟨_, _, rfl, rfl, q, _, _, _, _, _, _, _, _, rfl, rfl, hR⟩
    · simp only [if_neg h32]
      have hq4 : q < 4 := by
        obtain ⟨_, _, _, _, h, _⟩ := hR
        exact h
      rcases RD_step ha hR (tx i) (nI t) sv (nI t) sz with ⟨r1, k1, k2⟩ | ⟨q', f1'', f2'', sg'', e'', f'', s'', n'', rd, k1, k2, k3, k4, k5⟩
      · right
        rw [bd_t k1]
        simp only [if_pos z0]
        rcases k2 with k2 | ⟨k2, rd, k3⟩
        · rw [if_pos k2]
          exact ⟨_, _, rfl, rfl, Or.inl ⟨i, _, _, by omega, rfl, rfl⟩⟩
        · rw [if_neg k2, bd_t k3]
          simp only [if_pos z0]
          exact ⟨_, _, rfl, rfl, Or.inl ⟨i, _, _, by omega, rfl, rfl⟩⟩
      · left
        rw [bd_t k1, if_neg k2, bd_t k3]
        simp only [if_neg z1, nI_add i 1]
        rw [stg hq4, stj hq4, bd_s, ← k4]
        exact ⟨_, _, rfl, rfl, q', _, _, _, _, _, _, _, _, rfl, rfl, k5⟩
  · obtain ⟨q, f1', f2', sg', e', f', s', n', read', rfl, rfl, hR⟩ := hp
    unfold b_X1_readInto_7 b_X9_reads_26
    simp (disch := omega) only [nle, if_pos]
    exact ⟨_, _, rfl, rfl, Or.inr ⟨q, _, _, _, _, _, _, _, _, rfl, rfl, hR⟩⟩
theorem m_copyNow (q : Int32 × Int32 × (Nat → Int32)) (now : Nat → Int32) : ∃ now', wh (b_X9_loadGraph_22 q) (nI 0, now) = some now' ∧ ∀ k, k < 29 → now' k = q.2.2 k := by
  refine wh_inv (b := b_X9_loadGraph_22 q) (fun i z => z.1 = nI i ∧ ∀ k, k < i → z.2 k = q.2.2 k) (fun r => ∀ k, k < 29 → r k = q.2.2 k) 29 (fun i z hi ⟨z1, z2⟩ => ?_) (fun z ⟨z1, z2⟩ => ?_) 0 (nI 0, now) (by omega) ⟨rfl, fun k hk => absurd hk (Nat.not_lt_zero k)⟩
  · obtain ⟨zi, zp⟩ := z
    dsimp only at z1 z2
    subst z1
    unfold b_X9_loadGraph_22
    simp (disch := omega) only [nle, if_neg, nI_add, ginb, ncl]
    refine ⟨_, rfl, rfl, fun k hk => ?_⟩
    dsimp only
    rw [upd_at]
    by_cases ek : k = i
    · subst ek; rw [if_pos rfl]
    · rw [if_neg ek]; exact z2 k (by omega)
  · unfold b_X9_loadGraph_22
    simp (disch := omega) only [z1, nle, if_pos]
    exact ⟨_, rfl, z2⟩
theorem pr_loadGraph : Pr_loadGraph := by
  intro I J K L C Mm hI
  obtain ⟨hg, hh, t, t1, t2, t3, t4⟩ := id hI
  obtain ⟨c, k4, k11, hs⟩ := InvH_iff.mp hh
  obtain ⟨a, E, x, y, hG⟩ := gr_GA hg
  obtain ⟨g1, g2, g3, g4, g5, g6, g7, g8⟩ := id hG
  have g1' : ∀ i : Nat, i < 2 ^ 20 → ¬ nI i = nI 4294967295 := by
    intro i hi h
    have := congrArg Int32.toInt h
    rw [nI_toInt (by omega), show (nI 4294967295).toInt = -1 by decide] at this
    omega
  have g2' : ∀ i : Nat, i < 2 ^ 20 → ¬ nI i = nI 4294967287 := by
    intro i hi h
    have := congrArg Int32.toInt h
    rw [nI_toInt (by omega), show (nI 4294967287).toInt = -9 by decide] at this
    omega
  have hR0 : RD a 0 (K 7) (K 8) (K 9) (nI 0) (I 3) (I 4) (I 5) (upd (upd (I 11) 0 (nI a)) 1 (nI 0)) := by
    refine ⟨0, x, y, ⟨g1, g2, by omega, rfl, rfl, ?_, ?_, fun k hk => absurd hk (Nat.not_lt_zero k)⟩, by omega, fun h => absurd h (by omega)⟩
    · rw [upd_at, if_neg (by omega), upd_at, if_pos rfl]
    · rw [upd_at, if_pos rfl]
  obtain ⟨r1, r2, w1, w2, hQ⟩ := read_rel t1 t4 g6 (K 11) (K 14) (K 7) (K 8) (K 9) (nI 0) (I 3) (I 4) (I 5) _ hR0
  unfold f_X8_loadGraph f_X9_loadGraph f_X2_makeEmpty f_X1_readInto f_X9_reads
  rw [bd_s]
  simp (disch := omega) only [ginb, ncl, g6]
  rw [t2, t3, g4, bd_t w1, bd_t w2]
  rcases hQ with ⟨i, x', y', hi, rfl, rfl⟩ | ⟨q, f1', f2', sg', e', f', s', n', read', rfl, rfl, hR⟩
  · obtain ⟨xa, xb, xc, xd, xe, xf, xg, xh⟩ := x'
    obtain ⟨ya, yb⟩ := y'
    unfold ex2
    simp only [bd_s, nm_s, if_neg (g1' i (by omega)), if_neg (g2' i (by omega))]
    refine ⟨_, _, rfl, rfl, rfl, ?_, hh, t, t1, rfl, rfl, t4⟩
    show gr (nI a) (K 1) (I 0) (I 1) (I 2) (I 10) 0
    rw [← g4]; exact hg
  · obtain ⟨E', x', y', hG', hq4, -⟩ := hR
    unfold ex2
    by_cases hq0 : q = 0
    · subst hq0
      simp only [if_pos (show (nI 0 : Int32) = 0 by decide), bd_s, if_true, k4, k11]
      obtain ⟨c', L', C', past', s1, s2, s3⟩ := save_both hs hg (nI t) (nI 0) (K 14)
      rw [← g4, bd_t s1, bd_t s2]
      obtain ⟨p', q', o', e1, e2⟩ := c_copyFrom (K 0) (K 1) (I 0) (I 1) (I 2) (K 0) e' f' s' n'
      obtain ⟨now', v1, v2⟩ := m_copyNow (nI 4294967287, nI 0, read') (I 10)
      rw [bd_t e1, bd_t v1]
      simp (disch := omega) only [ginb, ncl]
      refine ⟨_, _, rfl, rfl, ?_, ?_, InvH_iff.mpr ⟨c', rfl, rfl, s3⟩, 0, by omega, rfl, rfl, fun k hk => absurd hk (Nat.not_lt_zero k)⟩
      · show e' = now' 1
        rw [v2 1 (by omega)]
        exact hG'.2.2.2.2.1.trans hG'.2.2.2.2.2.2.1.symm
      · show gr (K 0) e' p' q' o' now' 0
        refine gr_congr (now := read') (o := 0) ?_ e2 (fun i hi => ?_)
        · rw [g4]; exact GA_gr hG'
        · rw [Nat.zero_add]; exact v2 i hi
    · have q0 : ¬ nI q = 0 := by rw [neq0 (by omega)]; exact hq0
      simp only [if_neg q0, bd_s, nm_s, if_neg (g1' t (by omega)), if_neg (g2' t (by omega))]
      refine ⟨_, _, rfl, rfl, rfl, ?_, hh, t, t1, rfl, rfl, t4⟩
      show gr (nI a) (K 1) (I 0) (I 1) (I 2) (I 10) 0
      rw [← g4]; exact hg
