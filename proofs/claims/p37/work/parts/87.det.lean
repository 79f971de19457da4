/-! determinants of whole numbers -/
def dt (N : Nat) (A : Nat → Nat → Int) (m : Nat) : Int := Dk N A m (al m)
theorem dt_cc (N : Nat) (A : Nat → Nat → Int) (m : Nat) (h : m ≤ N) : dt N A m = cc (fun i j => - A i j) m m := by
  rw [cc_D N (fun i j => - A i j) m h, Dk_top]
  have e : (fun i j => - - A i j) = A := by funext i j; exact Int.neg_neg _
  rw [e]
  rfl
theorem mp_trp (N : Nat) (A : Nat → Nat → Int) (m : Nat) : ∀ i j, mp N (fun i j => A j i) m i j = mp N A m j i := by
  induction m with
  | zero => exact fun i j => rfl
  | succ m ih =>
    intro i j
    rw [← mp_comm N A m]
    show sm N (fun k => mp N (fun i j => A j i) m i k * A j k) = sm N (fun k => A j k * mp N A m k i)
    exact sm_congr (fun k _ => by rw [ih, Int.mul_comm])
theorem dt_T (N : Nat) (A : Nat → Nat → Int) (m : Nat) (h : m ≤ N) : dt N (fun i j => A j i) m = dt N A m := by
  rw [dt_cc N _ m h, dt_cc N A m h]
  have e : cc (fun i j => - A j i) m = cc (fun i j => - A i j) m := cc_tr (fun k => sm_congr (fun i _ => mp_trp m (fun i j => - A i j) k i i))
  rw [e]
theorem dt_sw {N m p q : Nat} (hp : p < m) (hq : q < m) (h : m ≤ N) (A : Nat → Nat → Int) : dt N (pm p q A) m = dt N A m := by
  rw [dt_cc N _ m h, dt_cc N A m h]
  have e : cc (fun i j => - pm p q A i j) m = cc (fun i j => - A i j) m := cc_pm hp hq (fun i j => - A i j)
  rw [e]
theorem Dk_rows {N : Nat} {A B : Nat → Nat → Int} : ∀ m, (∀ i c, i < m → c < N → A i c = B i c) → ∀ S, Dk N A m S = Dk N B m S := by
  intro m
  induction m with
  | zero => exact fun _ _ => rfl
  | succ m ih =>
    intro h S
    exact Lw_congr (fun c hc _ => h m c (by omega) hc) (fun c _ _ => ih (fun i c hi hc => h i c (by omega) hc) _)
/-- the first row, so many times, comes to the others -/
theorem dt_add0 {N m : Nat} (A B : Nat → Nat → Int) (t : Nat → Int) (h0 : ∀ c, c < N → B 0 c = A 0 c) (h : ∀ i c, 1 ≤ i → i < m → c < N → B i c = A i c + t i * A 0 c) : ∀ k, k ≤ m → ∀ S, Dk N B k S = Dk N A k S := by
  intro k
  induction k with
  | zero => exact fun _ _ => rfl
  | succ k ih =>
    intro hk S
    show Lw N (B k) (Dk N B k) S = Lw N (A k) (Dk N A k) S
    rw [Lw_congr (r' := B k) (v' := Dk N A k) (fun _ _ _ => rfl) (fun c _ _ => ih (by omega) _)]
    by_cases h1 : k = 0
    · subst h1
      exact Lw_congr (fun c hc _ => h0 c hc) (fun _ _ _ => rfl)
    · rw [Dk_comb N A k (B k) (fun i => if i = 0 then t k else 0)]
      refine Lw_congr (fun c hc _ => ?_) (fun _ _ _ => rfl)
      rw [sR_one (k := 0) (by omega) (fun i _ hi => by rw [if_neg hi]; exact Int.zero_mul _), if_pos rfl, h k c (by omega) (by omega) hc]
      omega
theorem Lw_vadd (N : Nat) (r : Nat → Int) (v w : (Nat → Bool) → Int) (S : Nat → Bool) : Lw N r (fun T => v T + w T) S = Lw N r v S + Lw N r w S := by
  unfold Lw
  rw [← sR_add]
  refine sR_congr (fun c _ => ?_)
  by_cases h : S c = true
  · rw [if_pos h, if_pos h, if_pos h]; grind
  · rw [if_neg h, if_neg h, if_neg h]; rfl
theorem dt_lin0 {N : Nat} (A B C : Nat → Nat → Int) (h0 : ∀ c, c < N → A 0 c = B 0 c + C 0 c) (hB : ∀ i c, 1 ≤ i → c < N → A i c = B i c) (hC : ∀ i c, 1 ≤ i → c < N → A i c = C i c) : ∀ k, 1 ≤ k → ∀ S, Dk N A k S = Dk N B k S + Dk N C k S := by
  intro k
  induction k with
  | zero => intro h; exact absurd h (by omega)
  | succ k ih =>
    intro _ S
    show Lw N (A k) (Dk N A k) S = Lw N (B k) (Dk N B k) S + Lw N (C k) (Dk N C k) S
    by_cases h1 : k = 0
    · subst h1
      show Lw N (A 0) (Dk N A 0) S = Lw N (B 0) (Dk N A 0) S + Lw N (C 0) (Dk N A 0) S
      unfold Lw
      rw [← sR_add]
      refine sR_congr (fun c hc => ?_)
      by_cases h : S c = true
      · rw [if_pos h, if_pos h, if_pos h, h0 c hc]; grind
      · rw [if_neg h, if_neg h, if_neg h]; rfl
    · rw [Lw_congr (r' := A k) (v' := fun T => Dk N B k T + Dk N C k T) (fun _ _ _ => rfl) (fun c _ _ => ih (by omega) _), Lw_vadd]
      rw [Lw_congr (r := A k) (r' := B k) (v := Dk N B k) (v' := Dk N B k) (fun c hc _ => hB k c (by omega) hc) (fun _ _ _ => rfl), Lw_congr (r := A k) (r' := C k) (v := Dk N C k) (v' := Dk N C k) (fun c hc _ => hC k c (by omega) hc) (fun _ _ _ => rfl)]
def in1 (b : Prop) [Decidable b] : Int := if b then 1 else 0
theorem in1_t {b : Prop} [Decidable b] (h : b) : in1 b = 1 := if_pos h
theorem in1_f {b : Prop} [Decidable b] (h : ¬ b) : in1 b = 0 := if_neg h
/-- an edge from p to 0 comes to the graph: without it, and with it drawn together -/
def ct0 (p : Nat) (A : Nat → Nat → Int) (i j : Nat) : Int := if i = 0 ∨ j = 0 then in1 (i = j) else A i j + in1 (i = p) * A 0 j + in1 (j = p) * (A i 0 + in1 (i = p) * A 0 0)
theorem dt_edge0 {m p : Nat} (hp0 : 0 < p) (hp : p < m) (A B : Nat → Nat → Int) (hB : ∀ i j, i < m → j < m → B i j = A i j + (in1 (i = p) - in1 (i = 0)) * (in1 (j = p) - in1 (j = 0))) : dt m B m = dt m A m + dt m (ct0 p A) m := by
  -- a row and a column, for A and for B
  have hrc : ∀ X : Nat → Nat → Int, dt m (fun i j => X i j + in1 (i = p) * X 0 j + in1 (j = p) * (X i 0 + in1 (i = p) * X 0 0)) m = dt m X m := by
    intro X
    have h1 : dt m (fun i j => X i j + in1 (i = p) * X 0 j) m = dt m X m := dt_add0 X _ (fun i => in1 (i = p)) (fun c _ => by rw [in1_f (show ¬ 0 = p by omega)]; omega) (fun i c _ _ _ => rfl) m (Nat.le_refl m) (al m)
    rw [← h1, ← dt_T m _ m (Nat.le_refl m), ← dt_T m (fun i j => X i j + in1 (i = p) * X 0 j) m (Nat.le_refl m)]
    refine dt_add0 (fun i j => X j i + in1 (j = p) * X 0 i) _ (fun i => in1 (i = p)) (fun c _ => ?_) (fun i c _ _ _ => ?_) m (Nat.le_refl m) (al m)
    · show X c 0 + in1 (c = p) * X 0 0 + in1 (0 = p) * (X c 0 + in1 (c = p) * X 0 0) = X c 0 + in1 (c = p) * X 0 0
      rw [in1_f (show ¬ 0 = p by omega)]; omega
    · rfl
  have hA := hrc A
  have hB2 := hrc B
  have hB3 : ∀ i j, i < m → j < m → B i j + in1 (i = p) * B 0 j + in1 (j = p) * (B i 0 + in1 (i = p) * B 0 0) = (A i j + in1 (i = p) * A 0 j + in1 (j = p) * (A i 0 + in1 (i = p) * A 0 0)) + in1 (i = 0) * in1 (j = 0) := by
    intro i j hi hj
    rw [hB i j hi hj, hB 0 j (by omega) hj, hB i 0 hi (by omega), hB 0 0 (by omega) (by omega)]
    have z1 : in1 (0 = p) = 0 := in1_f (by omega)
    have z2 : in1 (0 = 0) = 1 := in1_t rfl
    rw [z1, z2]
    by_cases i1 : i = p
    · have i2 : ¬ i = 0 := by omega
      rw [in1_t i1, in1_f i2]
      by_cases j1 : j = p
      · have j2 : ¬ j = 0 := by omega
        rw [in1_t j1, in1_f j2]; omega
      · rw [in1_f j1]
        by_cases j2 : j = 0
        · rw [in1_t j2]; omega
        · rw [in1_f j2]; omega
    · rw [in1_f i1]
      by_cases i2 : i = 0
      · rw [in1_t i2]
        by_cases j1 : j = p
        · have j2 : ¬ j = 0 := by omega
          rw [in1_t j1, in1_f j2]; omega
        · rw [in1_f j1]
          by_cases j2 : j = 0
          · rw [in1_t j2]; omega
          · rw [in1_f j2]; omega
      · rw [in1_f i2]
        by_cases j1 : j = p
        · have j2 : ¬ j = 0 := by omega
          rw [in1_t j1, in1_f j2]; omega
        · rw [in1_f j1]
          by_cases j2 : j = 0
          · rw [in1_t j2]; omega
          · rw [in1_f j2]; omega
  have hs := dt_lin0 (N := m) (fun i j => B i j + in1 (i = p) * B 0 j + in1 (j = p) * (B i 0 + in1 (i = p) * B 0 0)) (fun i j => if i < m then A i j + in1 (i = p) * A 0 j + in1 (j = p) * (A i 0 + in1 (i = p) * A 0 0) else B i j + in1 (i = p) * B 0 j + in1 (j = p) * (B i 0 + in1 (i = p) * B 0 0)) (fun i j => if i = 0 then in1 (j = 0) else if i < m then A i j + in1 (i = p) * A 0 j + in1 (j = p) * (A i 0 + in1 (i = p) * A 0 0) else B i j + in1 (i = p) * B 0 j + in1 (j = p) * (B i 0 + in1 (i = p) * B 0 0)) (fun c hc => by
    rw [hB3 0 c (by omega) hc, if_pos (by omega), if_pos rfl, in1_t (show (0 : Nat) = 0 from rfl)]; omega) (fun i c hi hc => by
    by_cases h : i < m
    · rw [hB3 i c h hc, if_pos h, in1_f (show ¬ i = 0 by omega)]; omega
    · rw [if_neg h]) (fun i c hi hc => by
    rw [if_neg (show ¬ i = 0 by omega)]
    by_cases h : i < m
    · rw [hB3 i c h hc, if_pos h, in1_f (show ¬ i = 0 by omega)]; omega
    · rw [if_neg h]) m (by omega) (al m)
  rw [← hB2, ← hA]
  refine hs.trans ?_
  congr 1
  · exact Dk_rows m (fun i c hi _ => if_pos hi) (al m)
  · refine (dt_add0 _ (ct0 p A) (fun i => - (A i 0 + in1 (i = p) * A 0 0)) (fun c hc => ?_) (fun i c h1 hi hc => ?_) m (Nat.le_refl m) (al m)).symm
    · show ct0 p A 0 c = if 0 = 0 then in1 (c = 0) else _
      unfold ct0
      rw [if_pos (Or.inl rfl), if_pos rfl]
      by_cases h : c = 0
      · rw [in1_t h, in1_t h.symm]
      · rw [in1_f h, in1_f (fun q => h q.symm)]
    · show ct0 p A i c = (if i = 0 then in1 (c = 0) else if i < m then A i c + in1 (i = p) * A 0 c + in1 (c = p) * (A i 0 + in1 (i = p) * A 0 0) else _) + - (A i 0 + in1 (i = p) * A 0 0) * (if 0 = 0 then in1 (c = 0) else _)
      rw [if_neg (show ¬ i = 0 by omega), if_pos hi, if_pos rfl]
      unfold ct0
      by_cases h : c = 0
      · rw [if_pos (Or.inr h), in1_f (show ¬ i = c by omega), h, in1_f (show ¬ 0 = p by omega), in1_t rfl]; omega
      · rw [if_neg (by omega), in1_f h]; omega
/-- the same for an edge from p to q -/
def ctq (p q : Nat) (A : Nat → Nat → Int) (i j : Nat) : Int := if i = q ∨ j = q then in1 (i = j) else A i j + in1 (i = p) * A q j + in1 (j = p) * (A i q + in1 (i = p) * A q q)
theorem sw_in {q p i : Nat} : in1 (sw 0 q i = p) = in1 (i = sw 0 q p) := by
  by_cases h : sw 0 q i = p
  · rw [in1_t h, in1_t (by rw [← h, sw_sw])]
  · rw [in1_f h, in1_f (fun e => h (by rw [e, sw_sw]))]
theorem dt_edge {m p q : Nat} (hne : p ≠ q) (hp : p < m) (hq : q < m) (A B : Nat → Nat → Int) (hB : ∀ i j, i < m → j < m → B i j = A i j + (in1 (i = p) - in1 (i = q)) * (in1 (j = p) - in1 (j = q))) : dt m B m = dt m A m + dt m (ctq p q A) m := by
  have h0 : 0 < m := by omega
  have hq0 : sw 0 q q = 0 := by
    unfold sw
    by_cases h : q = 0
    · rw [if_pos h, h]
    · rw [if_neg h, if_pos rfl]
  have h0q : sw 0 q 0 = q := by unfold sw; rw [if_pos rfl]
  have hp0 : 0 < sw 0 q p := by
    have h : sw 0 q p ≠ 0 := fun h => hne (by
      have := sw_sw 0 q p
      rw [h, h0q] at this
      exact this.symm)
    omega
  rw [← dt_sw h0 hq (Nat.le_refl m) A, ← dt_sw h0 hq (Nat.le_refl m) B, ← dt_sw h0 hq (Nat.le_refl m) (ctq p q A), dt_edge0 (p := sw 0 q p) hp0 (sw_lt h0 hq hp) (pm 0 q A) (pm 0 q B) (fun i j hi hj => by
    show B (sw 0 q i) (sw 0 q j) = A (sw 0 q i) (sw 0 q j) + _
    rw [hB _ _ (sw_lt h0 hq hi) (sw_lt h0 hq hj), sw_in, sw_in, sw_in, sw_in, hq0])]
  congr 1
  refine Dk_rows m (fun i j _ _ => ?_) (al m)
  show ct0 (sw 0 q p) (pm 0 q A) i j = ctq p q A (sw 0 q i) (sw 0 q j)
  unfold ct0 ctq pm
  rw [sw_in (i := i) (p := p), sw_in (i := j) (p := p), h0q]
  have e : ∀ i, (sw 0 q i = q) ↔ i = 0 := fun i => ⟨fun h => by rw [← sw_sw 0 q i, h, hq0], fun h => by rw [h, h0q]⟩
  by_cases h : i = 0 ∨ j = 0
  · rw [if_pos h, if_pos (by rw [e, e]; exact h)]
    by_cases h2 : i = j
    · rw [in1_t h2, in1_t (by rw [h2])]
    · rw [in1_f h2, in1_f (fun k => h2 (by rw [← sw_sw 0 q i, k, sw_sw]))]
  · rw [if_neg h, if_neg (by rw [e, e]; exact h)]
