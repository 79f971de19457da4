/-! texts: what is typed, and what is read of it -/
noncomputable def rdW (a : Nat) (t : List Nat) : Option ((Int32 × Int32 × (Nat → Int32)) ⊕ (Int32 × (Nat → Int32))) := it (b_X9_reads_26 (nI 0) (nI t.length) (nI 0) (fun _ => nI a) (tX t)) 100 (nI 0, nI 0, upd (upd z3 0 (nI a)) 1 (nI 0))
def rdC (B : AG) : ((Int32 × Int32 × (Nat → Int32)) ⊕ (Int32 × (Nat → Int32))) → Option (List Int32)
  | .inl _ => none
  | .inr z => if z.1 = nI 0 then some ((List.range (2 + 3 * B.2.length)).map z.2) else none
def rdF (n : Nat) : ((Int32 × Int32 × (Nat → Int32)) ⊕ (Int32 × (Nat → Int32))) → Option Int32
  | .inl z => some z.1
  | .inr z => if z.1 = nI 0 then none else some (nI n)
theorem nI_m1 : ∀ i : Nat, i < 2 ^ 20 → ¬ nI i = nI 4294967295 := by
  intro i hi h
  have := congrArg Int32.toInt h
  rw [nI_toInt (by omega), show (nI 4294967295).toInt = -1 by decide] at this
  omega
theorem s_load_pre {A : AG} {hs : List AG} {t : List Nat} {S : QS} (h : RS A hs t S) {r2 : (Int32 × Int32 × (Nat → Int32)) ⊕ (Int32 × (Nat → Int32))} (hr : rdW A.1 t = some r2) : ∃ r1, wh (b_X1_readInto_7 (nI t.length) (S.1 6) (nI A.1)) (nI 0, nI 0, S.2.2.1 7, S.2.2.1 8, S.2.2.1 9, nI 0, S.1 3, S.1 4, S.1 5) = some r1 ∧
      ((∃ i x y, i < 60 ∧ r1 = Sum.inl (nI i, x) ∧ r2 = Sum.inl (nI i, y)) ∨ ∃ q f1' f2' sg' e' f' s' n' read', r1 = Sum.inr (nI q, f1', f2', sg', e', f', s', n') ∧ r2 = Sum.inr (nI q, read') ∧ RD A.1 q f1' f2' sg' e' f' s' n' read') := by
  obtain ⟨hg, hh, t1, t2, t3⟩ := h
  obtain ⟨g1, g2, g3, g4⟩ := hg.1
  have hR0 : RD A.1 0 (S.2.2.1 7) (S.2.2.1 8) (S.2.2.1 9) (nI 0) (S.1 3) (S.1 4) (S.1 5) (upd (upd z3 0 (nI A.1)) 1 (nI 0)) := by
    refine ⟨0, fun _ => 0, fun _ => 0, ⟨g1, g2, by omega, rfl, rfl, ?_, ?_, fun k hk => absurd hk (Nat.not_lt_zero k)⟩, by omega, fun h => absurd h (by omega)⟩
    · rw [upd_at, if_neg (by omega), upd_at, if_pos rfl]
    · rw [upd_at, if_pos rfl]
  obtain ⟨r1, r2', w1, w2, hQ⟩ := read_rel (now := fun _ => nI A.1) t1 t3 rfl (nI 0) (nI 0) (S.2.2.1 7) (S.2.2.1 8) (S.2.2.1 9) (nI 0) (S.1 3) (S.1 4) (S.1 5) _ hR0
  have e : r2' = r2 := Option.some.inj (w2.symm.trans (wh_of hr))
  subst e
  exact ⟨r1, w1, hQ⟩
theorem s_load_ok {A B : AG} {hs : List AG} {t : List Nat} {S : QS} (h : RS A hs t S) (hB : VG B) (hBA : B.1 = A.1) (hr : (rdW A.1 t).bind (rdC B) = some ((List.range (2 + 3 * B.2.length)).map (enc B))) : ∃ S', o_loadGraph S = some (nI B.2.length, S') ∧ RS B (psh hs A) [] S' := by
  obtain ⟨r2, hr2, hC⟩ := Option.bind_eq_some_iff.mp hr
  obtain ⟨r1, w1, hQ⟩ := s_load_pre h hr2
  obtain ⟨hg, hh, t1, t2, t3⟩ := id h
  obtain ⟨c', L', C', s1, s2⟩ := s_save hg hh
  rcases hQ with ⟨i, x, y, -, rfl, rfl⟩ | ⟨q, f1', f2', sg', e', f', s', n', read', rfl, rfl, hR⟩
  · cases hC
  · have hq : nI q = nI 0 := by
      by_cases h0 : nI q = nI 0
      · exact h0
      · have h1 : (if nI q = nI 0 then some ((List.range (2 + 3 * B.2.length)).map read') else none) = some ((List.range (2 + 3 * B.2.length)).map (enc B)) := hC
        rw [if_neg h0] at h1; cases h1
    have h1 : (if nI q = nI 0 then some ((List.range (2 + 3 * B.2.length)).map read') else none) = some ((List.range (2 + 3 * B.2.length)).map (enc B)) := hC
    rw [if_pos hq] at h1
    have h2 := List.map_inj_left.mp (Option.some.inj h1)
    have hd : ∀ i, i < 2 + 3 * B.2.length → read' i = enc B i := fun i hi => h2 i (List.mem_range.mpr hi)
    obtain ⟨E', x', y', ⟨g1, g2, g3, g4, g5, g6, g7, g8⟩, hq4, -⟩ := hR
    obtain ⟨b1, b2, b3, b4⟩ := id hB
    have hE : E' = B.2.length := by
      have e1 := hd 1 (by omega)
      rw [g7] at e1
      have e2 : nI E' = nI B.2.length := e1
      rwa [neq (by omega) (by omega)] at e2
    subst hE
    obtain ⟨p', q', o', e1, e2⟩ := c_copyFrom (S.2.2.1 0) (S.2.2.1 1) (S.1 0) (S.1 1) (S.1 2) (S.2.2.1 0) e' f' s' n'
    have hRg : Rg B (S.2.2.1 0) e' p' q' o' := by
      refine Rg_congr (f := f') (s := s') (n := n') ⟨hB, by rw [hBA]; exact hg.2.1, g5, fun k hk => ?_⟩ e2
      obtain ⟨a1, a2, a3, a4, a5, a6, a7, a8, a9⟩ := g8 k hk
      refine ⟨?_, ?_, ?_⟩
      · rw [a4, ← a6, hd _ (by omega)]
        unfold enc
        rw [if_neg (by omega), if_neg (by omega), if_pos (by omega), show (0 + 2 + 3 * k) / 3 = k by omega]
      · rw [a5, ← a7, hd _ (by omega)]
        unfold enc
        rw [if_neg (by omega), if_neg (by omega), if_neg (by omega), if_pos (by omega), show (0 + 2 + 3 * k + 1) / 3 - 1 = k by omega]
      · rw [← a9, hd _ (by omega)]
        unfold enc
        rw [if_neg (by omega), if_neg (by omega), if_neg (by omega), if_neg (by omega), show (0 + 2 + 3 * k + 2) / 3 - 1 = k by omega]
    have hm1 : (if nI q = (0 : Int32) then some ((nI 4294967295), nI q, f1', f2', sg', e', f', s', n') else some (nI t.length, nI q, f1', f2', sg', e', f', s', n')) = some ((nI 4294967295), nI q, f1', f2', sg', e', f', s', n') := if_pos (hq.trans h00)
    have hf : f_X1_readInto (nI t.length) (S.2.2.1 6) (S.2.2.1 7) (S.2.2.1 8) (S.2.2.1 9) (S.1 6) (S.2.2.1 0) (nI 0) (S.1 3) (S.1 4) (S.1 5) = some ((nI 4294967295), nI q, f1', f2', sg', e', f', s', n') := by
      unfold f_X1_readInto
      rw [hg.2.1, bd_t w1]
      exact hm1
    unfold o_loadGraph f_X8_loadGraph f_X2_makeEmpty
    rw [bd_s, t2, bd_t hf, if_pos rfl, bd_t s1, bd_t e1, g5]
    refine ⟨_, rfl, ?_, s2, by decide, rfl, fun k hk => absurd hk (Nat.not_lt_zero k)⟩
    rw [← g5]
    exact hRg
theorem s_load_no {A : AG} {hs : List AG} {t : List Nat} {S : QS} (h : RS A hs t S) {c : Int32} (hr : (rdW A.1 t).bind (rdF t.length) = some c) : ∃ S', o_loadGraph S = some (nI 4294967286 - c, S') ∧ RS A hs t S' := by
  obtain ⟨r2, hr2, hC⟩ := Option.bind_eq_some_iff.mp hr
  obtain ⟨r1, w1, hQ⟩ := s_load_pre h hr2
  obtain ⟨hg, hh, t1, t2, t3⟩ := id h
  have hf : ∃ q', f_X1_readInto (nI t.length) (S.2.2.1 6) (S.2.2.1 7) (S.2.2.1 8) (S.2.2.1 9) (S.1 6) (S.2.2.1 0) (nI 0) (S.1 3) (S.1 4) (S.1 5) = some q' ∧ q'.1 = c ∧ ¬ q'.1 = nI 4294967295 := by
    unfold f_X1_readInto
    rw [hg.2.1, bd_t w1]
    rcases hQ with ⟨i, x, y, hi, rfl, rfl⟩ | ⟨q, f1', f2', sg', e', f', s', n', read', rfl, rfl, hR⟩
    · have hc : nI i = c := Option.some.inj hC
      exact ⟨_, rfl, hc, nI_m1 i (by omega)⟩
    · have h1 : (if nI q = nI 0 then none else some (nI t.length)) = some c := hC
      by_cases h0 : nI q = nI 0
      · rw [if_pos h0] at h1; cases h1
      · rw [if_neg h0] at h1
        have h0' : ¬ nI q = 0 := fun e => h0 (e.trans h00.symm)
        refine ⟨(nI t.length, nI q, f1', f2', sg', e', f', s', n'), if_neg h0', Option.some.inj h1, nI_m1 _ (by omega)⟩
  obtain ⟨q', f1, rfl, f3⟩ := hf
  unfold o_loadGraph f_X8_loadGraph f_X2_makeEmpty
  rw [bd_s, t2, bd_t f1, if_neg f3, nm_s]
  exact ⟨_, rfl, hg, hh, t1, rfl, t3⟩
theorem s_load_nil {A : AG} {hs : List AG} {S : QS} (h : RS A hs [] S) : ∃ S', o_loadGraph S = some (nI 0, S') ∧ RS (A.1, []) (psh hs A) [] S' := by
  obtain ⟨g1, g2, g3, g4⟩ := h.1.1
  refine s_load_ok (B := (A.1, [])) h ⟨g1, g2, Nat.zero_le 9, fun k hk => absurd hk (Nat.not_lt_zero k)⟩ rfl ?_
  have e : rdW A.1 [] = some (Sum.inr (nI 0, upd (upd z3 0 (nI A.1)) 1 (nI 0))) := by
    unfold rdW
    refine it_inr (n := 99) ?_
    unfold b_X9_reads_26
    rw [if_pos (show nI ([] : List Nat).length ≤ nI 0 by decide)]
  rw [e]
  rfl
/-- the characters of a word, the first ones first -/
def tyc (cs : Nat → Nat) : Nat → List Nat
  | 0 => []
  | m + 1 => if cs m = 0 then tyc cs m else cs m :: tyc cs m
def dnT (m : Nat) : Int32 := if m = 0 then nI 4294967295 else nI (m - 1)
theorem dnT_s {m : Nat} (hm : m < 8) : dnT (m + 1) + nI 4294967295 = dnT m := by
  have : m = 0 ∨ m = 1 ∨ m = 2 ∨ m = 3 ∨ m = 4 ∨ m = 5 ∨ m = 6 ∨ m = 7 := by omega
  rcases this with rfl | rfl | rfl | rfl | rfl | rfl | rfl | rfl <;> decide
theorem ty_go (w : Int64) (cs : Nat → Nat) (hcs : ∀ k, k < 8 → ((w >>> ((nI 8 * nI k).toInt64 &&& 63)) &&& (255 : Int64)).toInt32 = nI (cs k) ∧ cs k < 256) {A : AG} {hs : List AG} : ∀ m, m ≤ 8 → ∀ (t : List Nat) (l : Int32) (S : QS), RS A hs t S → t.length + m ≤ 60 → ∃ S', wh (b_L_types_6 w) (dnT m, l, S) = some ((if tyc cs m = [] then l else nI (t ++ tyc cs m).length), S') ∧ RS A hs (t ++ tyc cs m) S' := by
  intro m
  induction m with
  | zero =>
    intro _ t l S h _
    refine ⟨S, wh_inr ?_, by rw [show t ++ tyc cs 0 = t from List.append_nil t]; exact h⟩
    unfold b_L_types_6
    rw [if_pos (show dnT 0 < 0 by decide)]
    rfl
  | succ m ih =>
    intro hm t l S h hl
    obtain ⟨c1, c2⟩ := hcs m (by omega)
    have g1 : ¬ dnT (m + 1) < 0 := by
      have : m = 0 ∨ m = 1 ∨ m = 2 ∨ m = 3 ∨ m = 4 ∨ m = 5 ∨ m = 6 ∨ m = 7 := by omega
      rcases this with rfl | rfl | rfl | rfl | rfl | rfl | rfl | rfl <;> decide
    have e1 : dnT (m + 1) = nI m := by unfold dnT; rw [if_neg (by omega), Nat.add_sub_cancel]
    by_cases h0 : cs m = 0
    · obtain ⟨S', k1, k2⟩ := ih (by omega) t l S h (by omega)
      have e2 : tyc cs (m + 1) = tyc cs m := by show (if cs m = 0 then _ else _) = _; rw [if_pos h0]
      refine ⟨S', ?_, by rw [e2]; exact k2⟩
      rw [e2]
      refine wh_inl ?_ k1
      unfold b_L_types_6
      rw [if_neg g1, nm_s]
      show (if ((w >>> ((nI 8 * dnT (m + 1)).toInt64 &&& 63)) &&& (255 : Int64)).toInt32 = 0 then _ else _) = _
      rw [e1, c1, if_pos (show nI (cs m) = 0 by rw [h0]; decide), nm_s, ← e1, dnT_s (by omega)]
    · obtain ⟨S1, a1, a2⟩ := s_append h c2 (by omega)
      have hl1 : (t ++ [cs m]).length = t.length + 1 := by rw [List.length_append]; rfl
      obtain ⟨S', k1, k2⟩ := ih (by omega) (t ++ [cs m]) (nI (t.length + 1)) S1 a2 (by omega)
      have e2 : tyc cs (m + 1) = cs m :: tyc cs m := by show (if cs m = 0 then _ else _) = _; rw [if_neg h0]
      have e3 : t ++ [cs m] ++ tyc cs m = t ++ (cs m :: tyc cs m) := by rw [List.append_assoc]; rfl
      rw [e3] at k1 k2
      refine ⟨S', ?_, by rw [e2]; exact k2⟩
      rw [e2, if_neg (List.cons_ne_nil _ _)]
      have k3 : (if tyc cs m = [] then nI (t.length + 1) else nI (t ++ cs m :: tyc cs m).length) = nI (t ++ cs m :: tyc cs m).length := by
        by_cases hn : tyc cs m = []
        · rw [if_pos hn, hn]
          show _ = nI (t ++ [cs m]).length
          rw [hl1]
        · rw [if_neg hn]
      rw [k3] at k1
      refine wh_inl ?_ k1
      unfold b_L_types_6
      rw [if_neg g1, nm_s]
      show (if ((w >>> ((nI 8 * dnT (m + 1)).toInt64 &&& 63)) &&& (255 : Int64)).toInt32 = 0 then _ else bd (o_appendCharacter ((w >>> ((nI 8 * dnT (m + 1)).toInt64 &&& 63)) &&& (255 : Int64)).toInt32 S) _) = _
      have c3 : ¬ nI (cs m) = 0 := by rw [neq0 (by omega)]; exact h0
      rw [e1, c1, if_neg c3, bd_t a1, nm_s, ← e1, dnT_s (by omega)]
theorem p_types {A : AG} {hs : List AG} {t : List Nat} {S : QS} (h : RS A hs t S) (w : Int64) (cl L : List Nat) (hcs : ∀ k, k < 8 → ((w >>> ((nI 8 * nI k).toInt64 &&& 63)) &&& (255 : Int64)).toInt32 = nI (cl.getD k 0) ∧ cl.getD k 0 < 256) (hL : tyc (fun k => cl.getD k 0) 8 = L) (hne : L ≠ []) (hl : t.length + 8 ≤ 60) : ∃ S', f_L_types w S = some (nI (t ++ L).length, S') ∧ RS A hs (t ++ L) S' := by
  obtain ⟨S', k1, k2⟩ := ty_go w (fun k => cl.getD k 0) hcs 8 (Nat.le_refl 8) t (nI 0) S h hl
  rw [hL] at k1 k2
  rw [if_neg hne] at k1
  refine ⟨S', ?_, k2⟩
  unfold f_L_types
  rw [show (nI 7, nI 0, S) = (dnT 8, nI 0, S) from rfl, bd_t k1]
