/-! the law's two long pieces -/
theorem bl_55 {Lx : Nat} (hL : Lx ≤ 260) (xs : Nat → Int32) {f b many : Nat} (hf : f < 1000) (hb2 : 2 ≤ b) (hb6 : b ≤ 6) (hm9 : many ≤ 9) {t : List Nat} : ∀ (m k : Nat), k + m = many → ∀ (A : AG) (hs : List AG) (S : QS) (ga : Nat → Int32), RS A hs t S → A.1 = b → A.2.length = k → ∃ (A' : AG) (hs' : List AG) (S' : QS) (ga' : Nat → Int32), wh (b_L_builds_55 Lx xs (nI f) (nI b) 32 (nI many)) (nI k, S, ga) = some (.inr (S', ga')) ∧ RS A' hs' t S' ∧ A'.1 = b := by
  intro m
  induction m with
  | zero =>
    intro k hk A hs S ga h hA hl
    refine ⟨A, hs, S, ga, wh_inr ?_, h, hA⟩
    unfold b_L_builds_55
    rw [if_pos (show nI many ≤ nI k by rw [nle (by omega) (by omega)]; omega)]
  | succ m ih =>
    intro k hk A hs S ga h hA hl
    obtain ⟨x, ec⟩ := cell_ex hL xs (k := f + 1 + k) (by omega)
    obtain ⟨u, hu, ep1⟩ := part_ex x (n := b) (by omega) (by omega)
    obtain ⟨v, hv, ep2⟩ := part_ex (x >>> (nI 4 &&& 31)) (n := b - 1) (by omega) (by omega)
    obtain ⟨r, hr, ep3⟩ := part_ex (x >>> (nI 9 &&& 31)) (n := 3) (by omega) (by omega)
    have hw : (u + 1 + v) % b < b := Nat.mod_lt _ (by omega)
    have hne : u ≠ (u + 1 + v) % b := by
      intro he
      by_cases hc : u + 1 + v < b
      · rw [Nat.mod_eq_of_lt hc] at he; omega
      · rw [Nat.mod_eq_sub_mod (by omega), Nat.mod_eq_of_lt (by omega)] at he; omega
    obtain ⟨S1, ea, h1⟩ := s_addEdge h (u := u) (w := (u + 1 + v) % b) (b := decide (r = 0)) (by omega) (by omega) hne (by omega)
    rw [hl] at ea
    have ec' : f_L_cell Lx xs ((nI f + nI 1) + nI k) = some x := by rw [nI_add, nI_add]; exact ec
    have ep2' : f_L_part (x >>> (nI 4 &&& 31)) (nI b - nI 1) = some (nI v) := by rw [nsub (by omega)]; exact ep2
    have em : ((nI u + nI 1) + nI v) - ((nI u + nI 1) + nI v) / nI b * nI b = nI ((u + 1 + v) % b) := by rw [nI_add, nI_add, nmod (by omega) (by omega) (by omega)]
    have ej : (if nI r = (0 : Int32) then some (nI 4294967295) else some (nI 1)) = some (sgI (decide (r = 0))) := by
      by_cases c : r = 0
      · subst c; rfl
      · rw [if_neg (by rw [neq0 (by omega)]; exact c), decide_eq_false c]; rfl
    have i2 : ∀ c, c ≤ 4 → ∀ {α : Type} (q : Option α), gd (inb (nI c + nI 3 * nI k) 32) q = q := fun c hc α q => by rw [pk_mul, nI_add]; exact ginb (by omega) (by omega)
    have i1 : ∀ {α : Type} (q : Option α), gd (inb (nI 1) 32) q = q := fun q => ginb (by omega) (by omega)
    have step : ∃ g1, b_L_builds_55 Lx xs (nI f) (nI b) 32 (nI many) (nI k, S, ga) = some (.inl (nI (k + 1), S1, g1)) := by
      unfold b_L_builds_55
      dsimp only
      rw [if_neg (show ¬ nI many ≤ nI k by rw [nle (by omega) (by omega)]; omega), bd_t ec', bd_t ep1, bd_t ep2', gnz (by omega) (by omega), nm_s, em, bd_t ep3, ej, bd_s, i2 2 (by omega), i2 3 (by omega), i2 4 (by omega), i1, i1, bd_t ea, if_pos (show nI k = nI k from rfl), nI_add k 1]
      exact ⟨_, rfl⟩
    obtain ⟨g1, e1⟩ := step
    have hl1 : (A.2 ++ [(u, (u + 1 + v) % b, decide (r = 0))]).length = k + 1 := by rw [List.length_append, hl]; rfl
    obtain ⟨A', hs', S', ga', k1, k2, k3⟩ := ih (k + 1) (by omega) _ _ S1 g1 h1 hA hl1
    exact ⟨A', hs', S', ga', wh_inl e1 k1, k2, k3⟩
theorem p_builds {Lx : Nat} (hL : Lx ≤ 260) (xs : Nat → Int32) {f b : Nat} (hf : f < 1000) (hb2 : 2 ≤ b) (hb6 : b ≤ 6) {A : AG} {hs : List AG} {t : List Nat} {S : QS} (h : RS A hs t S) (ga : Nat → Int32) : ∃ (A' : AG) (hs' : List AG) (S' : QS) (ga' : Nat → Int32), f_L_builds Lx xs (nI f) (nI b) (nI 9) S 32 ga = some (nI 1, S', ga') ∧ RS A' hs' t S' ∧ A'.1 = b := by
  obtain ⟨S1, e1, h1⟩ := o_vc h
  obtain ⟨S2, e2, h2⟩ := s_configure h1 (b := b) (by omega) hb6
  obtain ⟨x, ec⟩ := cell_ex hL xs (k := f) (by omega)
  obtain ⟨many, hm, ep⟩ := part_ex x (n := 10) (by omega) (by omega)
  have ep' : f_L_part x (nI 9 + nI 1) = some (nI many) := by rw [nI_add]; exact ep
  obtain ⟨A', hs', S', ga', k1, k2, k3⟩ := bl_55 hL xs hf hb2 hb6 (many := many) (by omega) many 0 (by omega) _ _ S2 (upd (upd ga (nI 0).toNatClampNeg (nI b)) (nI 1).toNatClampNeg (nI 0)) h2 rfl rfl
  refine ⟨A', hs', S', ga', ?_, k2, k3⟩
  unfold f_L_builds
  rw [ginb (by omega) (by omega), ginb (by omega) (by omega), bd_t e1, bd_t e2, if_pos (show nI A.1 = nI A.1 from rfl), if_neg (show ¬ nI b = nI 1 by rw [neq (by omega) (by omega)]; omega), bd_t ec, bd_t ep', bd_s, bd_t k1]
  rfl
theorem p_segB {Lx : Nat} (hL : Lx ≤ 260) (xs : Nat → Int32) {tn : Nat} (ht : tn < 2) {A : AG} {hs : List AG} {t : List Nat} {S : QS} (h : RS A hs t S) (ga : Nat → Int32) : ∃ (R : QS × (Nat → Int32)) (A' : AG) (hs' : List AG), f_L_segB Lx xs (nI tn) S 32 ga = some R ∧ RS A' hs' t R.1 ∧ 2 ≤ A'.1 := by
  obtain ⟨x, ec⟩ := cell_ex hL xs (k := 30 * tn + 20) (by omega)
  obtain ⟨r, hr, ep⟩ := part_ex x (n := 5) (by omega) (by omega)
  obtain ⟨A', hs', S', ga', k1, k2, k3⟩ := p_builds hL xs (f := 30 * tn) (b := 2 + r) (by omega) (by omega) (by omega) h ga
  obtain ⟨S2, e2, h2⟩ := p_refused k2
  refine ⟨(S2, ga'), A', hs', ?_, h2, by omega⟩
  have ec' : f_L_cell Lx xs (nI 30 * nI tn + nI 20) = some x := by rw [pk_mul, nI_add]; exact ec
  have k1' : f_L_builds Lx xs (nI 30 * nI tn) (nI 2 + nI r) (nI 9) S 32 ga = some (nI 1, S', ga') := by rw [pk_mul, nI_add]; exact k1
  unfold f_L_segB
  rw [bd_t ec', bd_t ep, bd_t k1', if_neg (show ¬ (nI 1 : Int32) = 0 by decide), bd_t e2, if_neg (show ¬ (nI 1 : Int32) = 0 by decide)]
theorem ed_step {Lx : Nat} (hL : Lx ≤ 260) (xs : Nat → Int32) {tn k : Nat} (ht : tn < 2) (hk : k < 9) {A : AG} {hs : List AG} {S : QS} (h : RS A hs [] S) (h2 : 2 ≤ A.1) (w : Nat → Int64) : ∃ (d : Int64) (A' : AG) (S' : QS), DG A d ∧ b_L_law_129 Lx xs (nI tn) 9 (nI k, S, w) = some (.inl (nI (k + 1), S', vp_updL w k d)) ∧ RS A' (psh hs A) [] S' ∧ 2 ≤ A'.1 := by
  obtain ⟨d, hd⟩ := dg_ex h.VG
  obtain ⟨v1, v2, v3, v4⟩ := h.VG
  obtain ⟨S1, e1, h1⟩ := hd _ _ _ h
  obtain ⟨x, ec⟩ := cell_ex hL xs (k := 30 * tn + 21 + k) (by omega)
  have ec' : f_L_cell Lx xs ((nI 30 * nI tn + nI 21) + nI k) = some x := by rw [pk_mul, nI_add, nI_add]; exact ec
  obtain ⟨S2, e2, h2'⟩ := o_ec h1
  have n9 : ∀ {β : Type} (p q : β), A.2.length ≠ 9 → (if nI A.2.length = nI 9 then p else q) = q := fun p q c => if_neg (by rw [neq (by omega) (by omega)]; exact c)
  have y9 : ∀ {β : Type} (p q : β), A.2.length = 9 → (if nI A.2.length = nI 9 then p else q) = p := fun p q c => if_pos (by rw [c])
  have n7 : ∀ {β : Type} (p q : β), k ≠ 7 → (if nI k = nI 7 then p else q) = q := fun p q c => if_neg (by rw [neq (by omega) (by omega)]; exact c)
  have y7 : ∀ {β : Type} (p q : β), k = 7 → (if nI k = nI 7 then p else q) = p := fun p q c => if_pos (by rw [c])
  have start : ∀ (A' : AG) (S' : QS) (W : Option ((Int32 × QS × (Nat → Int64)) ⊕ ((QS × (Nat → Int64))))), True := fun _ _ _ => trivial
  obtain ⟨r2, hr2, ep2⟩ := part_ex x (n := 2) (by omega) (by omega)
  obtain ⟨r3, hr3, ep3⟩ := part_ex x (n := 3) (by omega) (by omega)
  have ej : (if nI r2 = (0 : Int32) then some (nI 1) else some (nI 4294967295)) = some (sgI (decide (r2 ≠ 0))) := by
    by_cases c : r2 = 0
    · subst c; rfl
    · rw [if_neg (by rw [neq0 (by omega)]; exact c), decide_eq_true c]; rfl
  obtain ⟨Sl, el, hl⟩ : ∃ S', o_loadGraph S2 = some (nI 0, S') ∧ RS (A.1, []) (psh hs A) [] S' := s_load_nil h2'
  by_cases cE : A.2.length = 0
  · have m0 : nI A.2.length ≤ 0 := by rw [nle0 (by omega)]; exact cE
    by_cases c7 : k = 7
    · refine ⟨d, (A.1, []), Sl, hd, ?_, hl, h2⟩
      unfold b_L_law_129
      dsimp only
      rw [if_neg (show ¬ nI 9 ≤ nI k by rw [nle (by omega) (by omega)]; omega), bd_t e1, ginb (by omega) (by omega), bd_t ec', bd_t e2, if_pos m0, if_pos m0, n9 _ _ (by omega), y7 _ _ c7, bd_t el, if_pos h00, nI_add, ncl (by omega)]
    · obtain ⟨Sa, ea, ha⟩ := s_addEdge h2' (u := 0) (w := 1) (b := decide (r2 ≠ 0)) (by omega) (by omega) (by omega) (by omega)
      refine ⟨d, _, Sa, hd, ?_, ha, h2⟩
      unfold b_L_law_129
      dsimp only
      rw [if_neg (show ¬ nI 9 ≤ nI k by rw [nle (by omega) (by omega)]; omega), bd_t e1, ginb (by omega) (by omega), bd_t ec', bd_t e2, if_pos m0, if_pos m0, n9 _ _ (by omega), n7 _ _ c7, bd_t ep2, ej, bd_s, bd_t ea, if_pos (show nI A.2.length = nI A.2.length from rfl), nI_add, ncl (by omega)]
  · have m0 : ¬ nI A.2.length ≤ 0 := by rw [nle0 (by omega)]; exact cE
    obtain ⟨j, hj, epj⟩ := part_ex (x >>> (nI 2 &&& 31)) (n := A.2.length) (by omega) (by omega)
    obtain ⟨Sf, rf, ef, hrf, hf⟩ := s_flipSign h2' hj
    by_cases c3 : r3 = 0
    · obtain ⟨Sr, er, hr⟩ := s_removeEdge h2' hj
      refine ⟨d, _, Sr, hd, ?_, hr, h2⟩
      unfold b_L_law_129
      dsimp only
      rw [if_neg (show ¬ nI 9 ≤ nI k by rw [nle (by omega) (by omega)]; omega), bd_t e1, ginb (by omega) (by omega), bd_t ec', bd_t e2, if_neg m0, bd_t ep3, if_pos (show nI r3 = 0 by rw [c3]; decide), bd_t epj, bd_t er, if_pos (show nI (A.2.length - 1) = nI A.2.length - nI 1 by rw [nsub (by omega)]), nI_add, ncl (by omega)]
    · have c3' : ¬ nI r3 = 0 := by rw [neq0 (by omega)]; exact c3
      by_cases c1 : r3 = 1
      · refine ⟨d, _, Sf, hd, ?_, hf, h2⟩
        unfold b_L_law_129
        dsimp only
        rw [if_neg (show ¬ nI 9 ≤ nI k by rw [nle (by omega) (by omega)]; omega), bd_t e1, ginb (by omega) (by omega), bd_t ec', bd_t e2, if_neg m0, bd_t ep3, if_neg c3', if_neg m0, bd_t ep3, if_pos (show nI r3 = nI 1 by rw [c1]), bd_t epj, bd_t ef, if_neg hrf, nI_add, ncl (by omega)]
      · have c1' : ¬ nI r3 = nI 1 := by rw [neq (by omega) (by omega)]; exact c1
        by_cases c9 : A.2.length = 9
        · refine ⟨d, _, Sf, hd, ?_, hf, h2⟩
          unfold b_L_law_129
          dsimp only
          rw [if_neg (show ¬ nI 9 ≤ nI k by rw [nle (by omega) (by omega)]; omega), bd_t e1, ginb (by omega) (by omega), bd_t ec', bd_t e2, if_neg m0, bd_t ep3, if_neg c3', if_neg m0, bd_t ep3, if_neg c1', y9 _ _ c9, bd_t epj, bd_t ef, if_neg hrf, nI_add, ncl (by omega)]
        · by_cases c7 : k = 7
          · refine ⟨d, (A.1, []), Sl, hd, ?_, hl, h2⟩
            unfold b_L_law_129
            dsimp only
            rw [if_neg (show ¬ nI 9 ≤ nI k by rw [nle (by omega) (by omega)]; omega), bd_t e1, ginb (by omega) (by omega), bd_t ec', bd_t e2, if_neg m0, bd_t ep3, if_neg c3', if_neg m0, bd_t ep3, if_neg c1', n9 _ _ c9, y7 _ _ c7, bd_t el, if_pos h00, nI_add, ncl (by omega)]
          · obtain ⟨Sa, ea, ha⟩ := s_addEdge h2' (u := 0) (w := 1) (b := decide (r2 ≠ 0)) (by omega) (by omega) (by omega) (by omega)
            refine ⟨d, _, Sa, hd, ?_, ha, h2⟩
            unfold b_L_law_129
            dsimp only
            rw [if_neg (show ¬ nI 9 ≤ nI k by rw [nle (by omega) (by omega)]; omega), bd_t e1, ginb (by omega) (by omega), bd_t ec', bd_t e2, if_neg m0, bd_t ep3, if_neg c3', if_neg m0, bd_t ep3, if_neg c1', n9 _ _ c9, n7 _ _ c7, bd_t ep2, ej, bd_s, bd_t ea, if_pos (show nI A.2.length = nI A.2.length from rfl), nI_add, ncl (by omega)]
/-- what the loop of nine edits keeps -/
def JE (k : Nat) (A : AG) (hs : List AG) (S : QS) (w : Nat → Int64) (Bs : List AG) : Prop := RS A hs [] S ∧ 2 ≤ A.1 ∧ Bs.length = k ∧ (∀ j B, Bs[j]? = some B → VG B ∧ DG B (w j)) ∧ (k ≤ 8 → ∃ pre, hs = pre ++ Bs) ∧ (k = 9 → hs = Bs.drop 1)
theorem je_step {k : Nat} (hk : k < 9) {A A' : AG} {hs : List AG} {S S' : QS} {w : Nat → Int64} {Bs : List AG} {d : Int64} (h : JE k A hs S w Bs) (hd : DG A d) (h' : RS A' (psh hs A) [] S') (h2 : 2 ≤ A'.1) : JE (k + 1) A' (psh hs A) S' (vp_updL w k d) (Bs ++ [A]) := by
  obtain ⟨j1, j2, j3, j4, j5, j6⟩ := h
  have hlen : hs.length ≤ 8 := j1.2.1.1
  obtain ⟨pre, hp⟩ := j5 (by omega)
  subst hp
  rw [List.length_append] at hlen
  refine ⟨h', h2, by rw [List.length_append, j3]; rfl, fun j B hB => ?_, fun h8 => ?_, fun h9 => ?_⟩
  · rw [updL_at]
    by_cases e : j = k
    · subst e
      rw [if_pos rfl]
      rw [← j3, List.getElem?_append_right (Nat.le_refl _), Nat.sub_self] at hB
      obtain rfl : A = B := Option.some.inj hB
      exact ⟨j1.VG, hd⟩
    · rw [if_neg e]
      have hj : j < Bs.length := by
        have := (List.getElem?_eq_some_iff.mp hB).1
        rw [List.length_append] at this
        have h7 : j < Bs.length + 1 := this
        omega
      rw [List.getElem?_append_left hj] at hB
      exact j4 j B hB
  · unfold psh
    by_cases c : (pre ++ Bs).length < 8
    · rw [if_pos c]; exact ⟨pre, List.append_assoc _ _ _⟩
    · rw [if_neg c]
      rw [List.length_append] at c
      cases pre with
      | nil => exact absurd c (by show ¬ ¬ (0 + Bs.length < 8); omega)
      | cons p pre => exact ⟨pre, List.append_assoc _ _ _⟩
  · have e8 : k = 8 := by omega
    subst e8
    cases pre with
    | cons p pre => exact absurd hlen (by show ¬ (pre.length + 1 + Bs.length ≤ 8); omega)
    | nil =>
      unfold psh
      rw [if_neg (by show ¬ (Bs.length < 8); omega)]
      show Bs.drop 1 ++ [A] = (Bs ++ [A]).drop 1
      rw [List.drop_append_of_le_length (by omega)]
theorem la_129 {Lx : Nat} (hL : Lx ≤ 260) (xs : Nat → Int32) {tn : Nat} (ht : tn < 2) : ∀ (m k : Nat), k + m = 9 → ∀ (A : AG) (hs : List AG) (S : QS) (w : Nat → Int64) (Bs : List AG), JE k A hs S w Bs → ∃ (A' : AG) (hs' : List AG) (S' : QS) (w' : Nat → Int64) (Bs' : List AG), wh (b_L_law_129 Lx xs (nI tn) 9) (nI k, S, w) = some (S', w') ∧ JE 9 A' hs' S' w' Bs' := by
  intro m
  induction m with
  | zero =>
    intro k hk A hs S w Bs h
    obtain rfl : k = 9 := by omega
    refine ⟨A, hs, S, w, Bs, wh_inr ?_, h⟩
    unfold b_L_law_129
    rw [if_pos (show nI 9 ≤ nI 9 by decide)]
  | succ m ih =>
    intro k hk A hs S w Bs h
    obtain ⟨d, A1, S1, hd, e1, h1, h2⟩ := ed_step hL xs ht (show k < 9 by omega) h.1 h.2.1 w
    obtain ⟨A', hs', S', w', Bs', k1, k2⟩ := ih (k + 1) (by omega) _ _ S1 _ _ (je_step (show k < 9 by omega) h hd h1 h2)
    exact ⟨A', hs', S', w', Bs', wh_inl e1 k1, k2⟩
theorem lu_296 {S9 : QS} {w : Nat → Int64} {Ms : List AG} (h8 : Ms.length = 8) (hM : ∀ j B, Ms[j]? = some B → VG B ∧ DG B (w (j + 1))) : ∀ k, k ≤ 8 → ∀ (A : AG) (S : QS), RS A (Ms.take k) [] S → (k = 0 → Ms[0]? = some A) → ∃ (S' : QS) (B : AG), wh (b_L_law_296 9 (S9, w)) (nI k, S) = some S' ∧ RS B [] [] S' ∧ Ms[0]? = some B := by
  intro k
  induction k with
  | zero =>
    intro _ A S h h0
    refine ⟨S, A, wh_inr ?_, h, h0 rfl⟩
    unfold b_L_law_296
    rw [if_pos (show (nI 0 : Int32) ≤ 0 by decide)]
  | succ k ih =>
    intro hk A S h _
    have hkl : k < Ms.length := by omega
    rw [List.take_succ_eq_append_getElem hkl] at h
    obtain ⟨S1, e1, h1⟩ := s_undo h
    rw [List.length_take, Nat.min_eq_left (by omega)] at e1
    obtain ⟨hV, hd⟩ := hM k Ms[k] (List.getElem?_eq_getElem hkl)
    obtain ⟨S2, e2, h2⟩ := hd _ _ _ h1
    obtain ⟨S', B, k1, k2, k3⟩ := ih (by omega) _ S2 h2 (fun e => by subst e; exact List.getElem?_eq_getElem hkl)
    refine ⟨S', B, wh_inl ?_ k1, k2, k3⟩
    unfold b_L_law_296
    dsimp only
    rw [if_neg (show ¬ nI (k + 1) ≤ 0 by rw [nle0 (by omega)]; omega), bd_t e1, if_pos (show nI k = nI (k + 1) - nI 1 by rw [nsub (by omega), Nat.add_sub_cancel]), bd_t e2, ginb (by omega) (by omega), ncl (by omega), if_pos (cmp_eq rfl), nm_s, m1_sub, nsub (by omega), Nat.add_sub_cancel]
theorem p_segA {Lx : Nat} (hL : Lx ≤ 260) (xs : Nat → Int32) {tn : Nat} (ht : tn < 2) {A : AG} {hs : List AG} {S : QS} (h : RS A hs [] S) (h2 : 2 ≤ A.1) (ga : Nat → Int32) (w : Nat → Int64) : ∃ (R : QS × (Nat → Int64)) (B : AG), f_L_segA Lx xs (nI tn) S 32 ga 9 w = some R ∧ RS B [] [] R.1 := by
  have hJ : JE 0 A hs S w [] := ⟨h, h2, rfl, (fun j B hB => by cases hB), fun _ => ⟨hs, (List.append_nil hs).symm⟩, fun h9 => absurd h9 (by decide)⟩
  obtain ⟨A', hs', S9, w', Bs', k1, j1, j2, j3, j4, j5, j6⟩ := la_129 hL xs ht 9 0 (by omega) A hs S w [] hJ
  have hh := j6 rfl
  subst hh
  have hl8 : (Bs'.drop 1).length = 8 := by rw [List.length_drop]; omega
  have hM : ∀ j B, (Bs'.drop 1)[j]? = some B → VG B ∧ DG B (w' (j + 1)) := fun j B hB => by
    rw [List.getElem?_drop, Nat.add_comm] at hB
    exact j4 (j + 1) B hB
  obtain ⟨S', B, u1, u2, u3⟩ := lu_296 (S9 := S9) hl8 hM 8 (Nat.le_refl 8) A' S9 (by rw [List.take_of_length_le (by omega)]; exact j1) (fun e => absurd e (by decide))
  obtain ⟨S2, e2, h3⟩ := s_undo_no u2
  obtain ⟨hV, hd⟩ := hM 0 B u3
  obtain ⟨S3, e3, h4⟩ := hd _ _ _ h3
  refine ⟨(S3, w'), B, ?_, h4⟩
  unfold f_L_segA
  rw [bd_t k1, bd_t u1, bd_t e2, if_pos (show nI 4294967294 = nI 4294967294 from rfl), bd_t e3, ginb (by omega) (by omega), ncl (by omega), if_pos (cmp_eq rfl)]
