/-! calls out of range, and the digest -/
theorem qb_of {β : Type} {o : QS → Option (β × QS)} {A : AG} {hs : List AG} {t : List Nat} {S : QS} {a : β} (hdet : ∃ r : β, ∀ (hs : List AG) (t : List Nat) (S : QS), RS A hs t S → ∃ S', o S = some (r, S') ∧ RS A hs t S') (h : RS A hs t S) (hv : ∃ S', o S = some (a, S')) : ∃ S', o S = some (a, S') ∧ RS A hs t S' := by
  obtain ⟨r, H⟩ := hdet
  obtain ⟨S1, e1, h1⟩ := H hs t S h
  obtain ⟨S2, e2⟩ := hv
  have e3 : (r, S1) = (a, S2) := Option.some.inj (e1.symm.trans e2)
  have hr : r = a := congrArg Prod.fst e3
  subst hr
  exact ⟨S1, e1, h1⟩
section
variable {A : AG} {hs : List AG} {t : List Nat} {S : QS}
theorem hasD (h : RS A hs t S) (p : Int32) : f_X2_hasDirected p (S.2.2.1 0) (S.2.2.1 1) = some (rng p (2 * A.2.length)) := by
  rw [h.e]
  exact c_hasDirected (by have := h.1.1.2.2.1; omega)
theorem qb_headOf (h : RS A hs t S) {p : Int32} (hp : rng p (2 * A.2.length) = nI 0) : ∃ S', o_headOf p S = some (nI 4294967295, S') ∧ RS A hs t S' :=
  qb_of (det_headOf h.VG p) h (by unfold o_headOf f_X8_headOf; rw [hasD h, hp, bd_s, if_pos h00]; exact ⟨_, rfl⟩)
theorem qb_follows (h : RS A hs t S) {p1 p2 : Int32} (hp : rng p1 (2 * A.2.length) = nI 0 ∨ rng p2 (2 * A.2.length) = nI 0) : ∃ S', o_follows p1 p2 S = some (nI 4294967295, S') ∧ RS A hs t S' :=
  qb_of (det_follows h.VG p1 p2) h (by
    unfold o_follows f_X8_follows
    rw [hasD h, bd_s]
    by_cases c : rng p1 (2 * A.2.length) = 0
    · rw [if_pos c]; exact ⟨_, rfl⟩
    · rw [if_neg c, hasD h, bd_s, if_pos ((hp.resolve_left (fun e => c (e.trans h00))).trans h00)]; exact ⟨_, rfl⟩)
theorem qb_degree (h : RS A hs t S) {p : Int32} (hp : rng p A.1 = nI 0) : ∃ S', o_degree p S = some (nI 4294967295, S') ∧ RS A hs t S' :=
  qb_of (det_degree h.VG p) h (by
    unfold o_degree f_X8_degree
    rw [show f_X2_hasVertex p (S.2.2.1 0) (S.2.2.1 1) = some (nI 0) by rw [h.v, c_hasVertex (by have := h.1.1.2.1; omega), hp], bd_s, if_pos h00]
    exact ⟨_, rfl⟩)
theorem qb_walks (h : RS A hs t S) {p : Int32} (hl : f_X8_isWalkLength p = some (nI 0)) : ∃ S', o_walks p S = some ((-9223372036854775808 : Int64), S') ∧ RS A hs t S' :=
  qb_of (det_walks h.VG p) h (by unfold o_walks f_X8_walks; rw [hl, bd_s, if_pos h00]; exact ⟨_, rfl⟩)
theorem qb_signedWalks (h : RS A hs t S) {p : Int32} (hl : f_X8_isWalkLength p = some (nI 0)) : ∃ S', o_signedWalks p S = some ((-9223372036854775808 : Int64), S') ∧ RS A hs t S' :=
  qb_of (det_signedWalks h.VG p) h (by unfold o_signedWalks f_X8_signedWalks; rw [hl, bd_s, if_pos h00]; exact ⟨_, rfl⟩)
theorem qb_coverWalks (h : RS A hs t S) {p : Int32} (hl : f_X8_isWalkLength p = some (nI 0)) : ∃ S', o_coverWalks p S = some ((-9223372036854775808 : Int64), S') ∧ RS A hs t S' :=
  qb_of (det_coverWalks h.VG p) h (by unfold o_coverWalks f_X8_coverWalks; rw [hl, bd_s, if_pos h00]; exact ⟨_, rfl⟩)
theorem qb_primes (h : RS A hs t S) {p : Int32} (hl : f_X8_isWalkLength p = some (nI 0)) : ∃ S', o_primes p S = some ((-9223372036854775808 : Int64), S') ∧ RS A hs t S' :=
  qb_of (det_primes h.VG p) h (by unfold o_primes f_X8_primes; rw [hl, bd_s, if_pos h00]; exact ⟨_, rfl⟩)
theorem qb_positivePrimes (h : RS A hs t S) {p : Int32} (hl : f_X8_isWalkLength p = some (nI 0)) : ∃ S', o_positivePrimes p S = some ((-9223372036854775808 : Int64), S') ∧ RS A hs t S' :=
  qb_of (det_positivePrimes h.VG p) h (by unfold o_positivePrimes f_X8_positivePrimes; rw [hl, bd_s, if_pos h00]; exact ⟨_, rfl⟩)
theorem qb_edgeCoefficient (h : RS A hs t S) {p : Int32} (hl : f_X8_isIndex p (nI 18) = some (nI 0)) : ∃ S', o_edgeCoefficient p S = some ((-9223372036854775808 : Int64), S') ∧ RS A hs t S' :=
  qb_of (det_edgeCoefficient h.VG p) h (by unfold o_edgeCoefficient f_X8_edgeCoefficient; rw [hl, bd_s, if_pos h00]; exact ⟨_, rfl⟩)
theorem qb_signedCoefficient (h : RS A hs t S) {p : Int32} (hl : f_X8_isIndex p (nI 18) = some (nI 0)) : ∃ S', o_signedCoefficient p S = some ((-9223372036854775808 : Int64), S') ∧ RS A hs t S' :=
  qb_of (det_signedCoefficient h.VG p) h (by unfold o_signedCoefficient f_X8_signedCoefficient; rw [hl, bd_s, if_pos h00]; exact ⟨_, rfl⟩)
theorem qb_vertexCoefficient (h : RS A hs t S) {p : Int32} (hl : f_X8_isIndex p (nI 12) = some (nI 0)) : ∃ S', o_vertexCoefficient p S = some ((-9223372036854775808 : Int64), S') ∧ RS A hs t S' :=
  qb_of (det_vertexCoefficient h.VG p) h (by unfold o_vertexCoefficient f_X8_vertexCoefficient; rw [hl, bd_s, if_pos h00]; exact ⟨_, rfl⟩)
theorem qb_bassCoefficient (h : RS A hs t S) {p : Int32} (hl : f_X8_isIndex p (nI 18) = some (nI 0)) : ∃ S', o_bassCoefficient p S = some ((-9223372036854775808 : Int64), S') ∧ RS A hs t S' :=
  qb_of (det_bassCoefficient h.VG p) h (by unfold o_bassCoefficient f_X8_bassCoefficient; rw [hl, bd_s, if_pos h00]; exact ⟨_, rfl⟩)
theorem qb_zetaCoefficient (h : RS A hs t S) {p : Int32} (hl : f_X8_isIndex p (nI 12) = some (nI 0)) : ∃ S', o_zetaCoefficient p S = some ((-9223372036854775808 : Int64), S') ∧ RS A hs t S' :=
  qb_of (det_zetaCoefficient h.VG p) h (by unfold o_zetaCoefficient f_X8_zetaCoefficient; rw [hl, bd_s, if_pos h00]; exact ⟨_, rfl⟩)
theorem qb_taylorAtOne (h : RS A hs t S) {p : Int32} (hl : f_X8_isIndex p (nI 18) = some (nI 0)) : ∃ S', o_taylorAtOne p S = some ((-9223372036854775808 : Int64), S') ∧ RS A hs t S' :=
  qb_of (det_taylorAtOne h.VG p) h (by unfold o_taylorAtOne f_X8_taylorAtOne; rw [hl, bd_s, if_pos h00]; exact ⟨_, rfl⟩)
theorem qb_edgeValue (h : RS A hs t S) {p : Int32} (hp : p < nI 4294967294 ∨ ¬ p ≤ nI 2) : ∃ S', o_edgeValue p S = some ((-9223372036854775808 : Int64), S') ∧ RS A hs t S' :=
  qb_of (det_edgeValue h.VG p) h (by
    unfold o_edgeValue f_X8_edgeValue
    by_cases c : p < nI 4294967294
    · rw [if_pos c]; exact ⟨_, rfl⟩
    · rw [if_neg c, if_neg (hp.resolve_left c)]; exact ⟨_, rfl⟩)
theorem qb_primeEdge (h : RS A hs t S) {p1 p2 p3 : Int32} (hp : f_X8_isPrimeLength p1 = some (nI 0) ∨ (f_X8_isPrimeLength p1 = some (nI 1) ∧ (p2 < 0 ∨ p3 < 0 ∨ ¬ p3 < p1))) : ∃ S', o_primeEdge p1 p2 p3 S = some (nI 4294967295, S') ∧ RS A hs t S' :=
  qb_of (det_primeEdge h.VG p1 p2 p3) h (by
    unfold o_primeEdge f_X8_primeEdge
    rcases hp with hp | ⟨hp, hq⟩
    · rw [hp, bd_s, if_pos h00]; exact ⟨_, rfl⟩
    · rw [hp, bd_s, if_neg h10]
      by_cases c2 : p2 < 0
      · rw [if_pos c2]; exact ⟨_, rfl⟩
      · rw [if_neg c2]
        by_cases c3 : p3 < 0
        · rw [if_pos c3]; exact ⟨_, rfl⟩
        · rw [if_neg c3, if_neg ((hq.resolve_left c2).resolve_left c3)]; exact ⟨_, rfl⟩)
theorem qb_primeSign (h : RS A hs t S) {p1 p2 : Int32} (hp : f_X8_isPrimeLength p1 = some (nI 0) ∨ (f_X8_isPrimeLength p1 = some (nI 1) ∧ ¬ 0 ≤ p2)) : ∃ S', o_primeSign p1 p2 S = some (nI 0, S') ∧ RS A hs t S' :=
  qb_of (det_primeSign h.VG p1 p2) h (by
    unfold o_primeSign f_X8_primeSign
    rcases hp with hp | ⟨hp, hq⟩
    · rw [hp, bd_s, if_pos h00]; exact ⟨_, rfl⟩
    · rw [hp, bd_s, if_neg h10, if_neg hq]; exact ⟨_, rfl⟩)
/-- there is no cycle of length one -/
theorem qb_one (h : RS A hs t S) : ∃ S', o_primeEdge (nI 1) (nI 0) (nI 0) S = some (nI 4294967287, S') ∧ RS A hs t S' :=
  qb_of (det_primeEdge h.VG (nI 1) (nI 0) (nI 0)) h (by
    obtain ⟨g1, g2, g3, g4, g5, g6, g7, g8⟩ := Rg_GA h.1
    have hG : GA (S.2.2.1 0) (S.2.2.1 1) (S.1 0) (S.1 1) (S.1 2) (enc A) 0 A.1 A.2.length (fun k => if k < A.2.length then gX A k else 0) (fun k => if k < A.2.length then gY A k else 1) := by
      refine ⟨g1, g2, g3, g4, g5, g6, g7, fun k hk => ?_⟩
      dsimp only
      rw [if_pos hk, if_pos hk]
      exact g8 k hk
    have hxy : ∀ k, (fun k => if k < A.2.length then gX A k else 0) k ≠ (fun k => if k < A.2.length then gY A k else 1) k := by
      intro k
      dsimp only
      by_cases hk : k < A.2.length
      · rw [if_pos hk, if_pos hk]; exact (g8 k hk).2.2.1
      · rw [if_neg hk, if_neg hk]; decide
    generalize (fun k => if k < A.2.length then gX A k else 0) = x at hG hxy
    generalize (fun k => if k < A.2.length then gY A k else 1) = y at hG hxy
    have hirr : ∀ e, ¬ nxt x y e e := by
      intro e he
      have h1 := he.1
      unfold hd tl at h1
      by_cases c : e % 2 = 0
      · rw [if_pos c, if_pos c] at h1; exact hxy _ h1.symm
      · rw [if_neg c, if_neg c] at h1; exact hxy _ h1
    have hs' : srch (GW x y 1) (2 * A.2.length) 1 1 (fun _ => 0) 0 = .inl 0 := srch_none 1 (Nat.le_refl 1) _ (fun w' _ hw => hirr (w' 0) hw.2.1) 0
    obtain ⟨r, f1, f2⟩ := (c_find hG (L := 1) (k := 0) (Nat.le_refl 1) (by omega) (by omega) (S.2.2.1 10) (S.1 9) (fun _ => 0)).2 0 hs'
    unfold o_primeEdge f_X8_primeEdge
    rw [show f_X8_isPrimeLength (nI 1) = some (nI 1) by decide, bd_s, if_neg h10, if_neg (show ¬ nI 0 < 0 by decide), if_neg (show ¬ nI 0 < 0 by decide), if_pos (show nI 0 < nI 1 by decide), bd_t f1, f2, if_pos h00]
    exact ⟨_, rfl⟩)
end
/-- the digest hangs on the graph alone -/
def DG (A : AG) (d : Int64) : Prop := ∀ (hs : List AG) (t : List Nat) (S : QS), RS A hs t S → ∃ S', f_L_digest S = some (d, S') ∧ RS A hs t S'
theorem dg_18 {A : AG} (hA : VG A) : ∀ (m i : Nat) (h : Int64), i + m = 2 * A.2.length → ∃ d : Int64, ∀ (hs : List AG) (t : List Nat) (S : QS), RS A hs t S → ∃ S', wh b_L_digest_18 (nI i, h, S) = some (d, S') ∧ RS A hs t S' := by
  have hE := hA.2.2.1
  intro m
  induction m with
  | zero =>
    intro i h hi
    refine ⟨h, fun hs t S hS => ?_⟩
    obtain ⟨S1, e1, h1⟩ := o_ec hS
    refine ⟨S1, wh_inr ?_, h1⟩
    unfold b_L_digest_18
    rw [bd_t e1, if_pos (show nI 2 * nI A.2.length ≤ nI i by rw [pk_mul, nle (by omega) (by omega)]; omega)]
  | succ m ih =>
    intro i h hi
    obtain ⟨r, H⟩ := det_headOf hA (nI i)
    obtain ⟨d, G⟩ := ih (i + 1) ((31 : Int64) * h + r.toInt64) (by omega)
    refine ⟨d, fun hs t S hS => ?_⟩
    obtain ⟨S1, e1, h1⟩ := o_ec hS
    obtain ⟨S2, e2, h2⟩ := H hs t S1 h1
    obtain ⟨S3, e3, h3⟩ := G hs t S2 h2
    refine ⟨S3, wh_inl ?_ e3, h3⟩
    unfold b_L_digest_18
    rw [bd_t e1, if_neg (show ¬ nI 2 * nI A.2.length ≤ nI i by rw [pk_mul, nle (by omega) (by omega)]; omega), bd_t e2, nm_s, nI_add]
theorem dg_49 {A : AG} (hA : VG A) : ∀ (m i : Nat) (h : Int64), i + m = 7 → ∃ d : Int64, ∀ (hs : List AG) (t : List Nat) (S : QS), RS A hs t S → ∃ S', wh b_L_digest_49 (nI i, h, S) = some (d, S') ∧ RS A hs t S' := by
  intro m
  induction m with
  | zero =>
    intro i h hi
    refine ⟨h, fun hs t S hS => ⟨S, wh_inr ?_, hS⟩⟩
    unfold b_L_digest_49
    rw [if_pos (show nI 7 ≤ nI i by rw [nle (by omega) (by omega)]; omega)]
  | succ m ih =>
    intro i h hi
    obtain ⟨r, H⟩ := det_signedWalks hA (nI i)
    obtain ⟨r', H'⟩ := det_walks hA (nI i)
    obtain ⟨d, G⟩ := ih (i + 1) ((31 : Int64) * ((31 : Int64) * h + r) + r') (by omega)
    refine ⟨d, fun hs t S hS => ?_⟩
    obtain ⟨S1, e1, h1⟩ := H hs t S hS
    obtain ⟨S2, e2, h2⟩ := H' hs t S1 h1
    obtain ⟨S3, e3, h3⟩ := G hs t S2 h2
    refine ⟨S3, wh_inl ?_ e3, h3⟩
    unfold b_L_digest_49
    rw [if_neg (show ¬ nI 7 ≤ nI i by rw [nle (by omega) (by omega)]; omega), bd_t e1, bd_t e2, nm_s, nI_add]
theorem dg_ex {A : AG} (hA : VG A) : ∃ d, DG A d := by
  obtain ⟨d1, G1⟩ := dg_18 hA (2 * A.2.length) 0 ((31 : Int64) * (nI A.1).toInt64 + (nI A.2.length).toInt64) (by omega)
  obtain ⟨d2, G2⟩ := dg_49 hA 6 1 d1 (by omega)
  obtain ⟨r, H⟩ := det_isBalanced hA
  refine ⟨(31 : Int64) * d2 + r.toInt64, fun hs t S hS => ?_⟩
  obtain ⟨S1, e1, h1⟩ := o_vc hS
  obtain ⟨S2, e2, h2⟩ := o_ec h1
  obtain ⟨S3, e3, h3⟩ := G1 hs t S2 h2
  obtain ⟨S4, e4, h4⟩ := G2 hs t S3 h3
  obtain ⟨S5, e5, h5⟩ := H hs t S4 h4
  refine ⟨S5, ?_, h5⟩
  unfold f_L_digest
  rw [bd_t e1, bd_t e2, nm_s, bd_t e3, bd_t e4, bd_t e5]
theorem dg_eq {A : AG} {d d' : Int64} (h : DG A d) (h' : DG A d') (hA : VG A) : d = d' := by
  obtain ⟨S1, e1, -⟩ := h [] [] (S0 A) (S0_RS hA)
  obtain ⟨S2, e2, -⟩ := h' [] [] (S0 A) (S0_RS hA)
  exact congrArg Prod.fst (Option.some.inj (e1.symm.trans e2))
theorem and31 (p : Int32) : ∃ r, r < 2 ^ 31 ∧ p &&& nI 2147483647 = nI r := by
  have h : (p &&& nI 2147483647).toBitVec.msb = false := by
    rw [Int32.toBitVec_and, BitVec.msb_and, show (nI 2147483647).toBitVec.msb = false by decide, Bool.and_false]
  have h2 : (p &&& nI 2147483647).toInt = ((p &&& nI 2147483647).toBitVec.toNat : Int) := BitVec.toInt_eq_toNat_of_msb h
  have h3 : (p &&& nI 2147483647).toInt < 2 ^ 31 := Int32.toInt_lt _
  refine ⟨(p &&& nI 2147483647).toBitVec.toNat, by omega, Int32.toInt_inj.mp ?_⟩
  rw [nI_toInt (by omega), h2]
theorem part_ex (p : Int32) {n : Nat} (h0 : 0 < n) (hn : n < 2 ^ 31) : ∃ r, r < n ∧ f_L_part p (nI n) = some (nI r) := by
  obtain ⟨m, hm, e⟩ := and31 p
  refine ⟨m % n, Nat.mod_lt m h0, ?_⟩
  unfold f_L_part
  rw [nm_s, e, gnz h0 hn, nmod hm h0 hn]
theorem cell_ex {Lx : Nat} (hL : Lx ≤ 260) (xs : Nat → Int32) {k : Nat} (hk : k < 2 ^ 31) : ∃ x, f_L_cell Lx xs (nI k) = some x := by
  unfold f_L_cell
  by_cases h0 : nI Lx = 0
  · rw [if_pos h0]; exact ⟨_, rfl⟩
  · rw [if_neg h0]
    have h1 : 0 < Lx := by
      rcases Nat.eq_zero_or_pos Lx with e | e
      · subst e; exact absurd h00 h0
      · exact e
    rw [gnz h1 (by omega), nmod hk h1 (by omega), ginb (Nat.mod_lt k h1) (by omega), gnz h1 (by omega), nm_s]
    exact ⟨_, rfl⟩
