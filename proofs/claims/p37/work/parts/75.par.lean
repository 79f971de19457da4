/-- equal but for an even number -/
def e2 (a b : Int) : Prop := ∃ d, a = b + 2 * d
theorem e2_r (a : Int) : e2 a a := ⟨0, by omega⟩
theorem e2_add {a b a' b' : Int} (h : e2 a b) (h' : e2 a' b') : e2 (a + a') (b + b') := by
  obtain ⟨d, rfl⟩ := h
  obtain ⟨d', rfl⟩ := h'
  exact ⟨d + d', by omega⟩
theorem e2_neg {a b : Int} (h : e2 a b) : e2 (-a) (-b) := by
  obtain ⟨d, rfl⟩ := h
  exact ⟨-d, by omega⟩
theorem e2_mul {a b a' b' : Int} (h : e2 a b) (h' : e2 a' b') : e2 (a * a') (b * b') := by
  obtain ⟨d, rfl⟩ := h
  obtain ⟨d', rfl⟩ := h'
  exact ⟨d * b' + b * d' + 2 * d * d', by grind⟩
theorem e2_sm {n : Nat} {f g : Nat → Int} (h : ∀ i, i < n → e2 (f i) (g i)) : e2 (sm n f) (sm n g) := by
  induction n with
  | zero => exact e2_r _
  | succ n ih => exact e2_add (ih (fun i hi => h i (by omega))) (h n (by omega))
theorem e2_mp {A B : Nat → Nat → Int} (h : ∀ i j, e2 (A i j) (B i j)) (N m : Nat) : ∀ i j, e2 (mp N A m i j) (mp N B m i j) := by
  induction m with
  | zero => exact h
  | succ m ih =>
    intro i j
    show e2 (sm N (fun k => mp N A m i k * A k j)) (sm N (fun k => mp N B m i k * B k j))
    exact e2_sm (fun k _ => e2_mul (ih i k) (h k j))
theorem e2_gz {A B : Nat → Nat → Int} (h : ∀ i j, e2 (A i j) (B i j)) (N i j c : Nat) : e2 (gz N A i j c) (gz N B i j c) := by
  cases c with
  | zero => exact e2_r _
  | succ m => exact e2_mp h N m i j
theorem e2_Ss {A B : Nat → Nat → Int} (h : ∀ i j, e2 (A i j) (B i j)) (n k : Nat) : e2 (Ss A n k) (Ss B n k) := by
  rw [Ss_co, Ss_co]
  by_cases h0 : k = 0
  · rw [if_pos h0, if_pos h0]; exact e2_r _
  · rw [if_neg h0, if_neg h0]
    by_cases h1 : k = 1
    · rw [if_pos h1, if_pos h1]; exact e2_neg (h n n)
    · rw [if_neg h1, if_neg h1]
      exact e2_neg (e2_sm (fun l _ => e2_mul (h n l) (e2_sm (fun j _ => e2_mul (e2_gz h n l j _) (h j n)))))
theorem e2_cc {A B : Nat → Nat → Int} (h : ∀ i j, e2 (A i j) (B i j)) (n : Nat) : ∀ k, e2 (cc A n k) (cc B n k) := by
  induction n with
  | zero => exact fun k => e2_r _
  | succ n ih =>
    intro k
    show e2 (sm (k + 1) (fun i => cc A n i * Ss A n (k - i))) (sm (k + 1) (fun i => cc B n i * Ss B n (k - i)))
    exact e2_sm (fun i _ => e2_mul (ih i) (e2_Ss h n (k - i)))
section PAR
variable {v e : Int32} {f s n now : Nat → Int32} {a E : Nat} {x y : Nat → Nat}
theorem EP_Ev (hG : GA v e f s n now 0 a E x y) : Ev (EP x y (sgW 0 n) E) (EP x y (sgW 1 n) E) := by
  refine Ev_of (fun k => e2_cc (fun i j => ?_) (2 * E) k)
  unfold Ac
  by_cases h : i < 2 * E ∧ j < 2 * E
  · rw [if_pos h, if_pos h]
    unfold MM
    have h1 : sgW 0 n (i / 2) = 1 := rfl
    rw [h1]
    rcases sgW_pm hG 1 (i / 2) (by omega) with h2 | h2
    · rw [h2]; exact e2_r _
    · rw [h2]; exact ⟨bb x y i j, by omega⟩
  · rw [if_neg h, if_neg h]; exact e2_r _
/-! how great the traces can be -/
def av (z : Int) : Int := if 0 ≤ z then z else -z
theorem av_0 (z : Int) : 0 ≤ av z := by unfold av; split <;> omega
theorem av_le (z : Int) : z ≤ av z ∧ -z ≤ av z := by unfold av; split <;> omega
theorem av_add (a b : Int) : av (a + b) ≤ av a + av b := by unfold av; split <;> split <;> split <;> omega
theorem av_mul (a b : Int) : av (a * b) = av a * av b := by
  unfold av
  by_cases h1 : 0 ≤ a <;> by_cases h2 : 0 ≤ b
  · rw [if_pos h1, if_pos h2, if_pos (Int.mul_nonneg h1 h2)]
  · rw [if_pos h1, if_neg h2]
    have h3 : a * b ≤ 0 := Int.mul_nonpos_of_nonneg_of_nonpos h1 (by omega)
    rw [Int.mul_neg]
    split <;> omega
  · rw [if_neg h1, if_pos h2]
    have h3 : a * b ≤ 0 := Int.mul_nonpos_of_nonpos_of_nonneg (by omega) h2
    rw [Int.neg_mul]
    split <;> omega
  · rw [if_neg h1, if_neg h2]
    have h3 : 0 ≤ a * b := Int.mul_nonneg_of_nonpos_of_nonpos (by omega) (by omega)
    rw [if_pos h3, Int.neg_mul_neg]
theorem sm_le {n : Nat} {f g : Nat → Int} (h : ∀ i, i < n → f i ≤ g i) : sm n f ≤ sm n g := by
  induction n with
  | zero => exact Int.le_refl _
  | succ n ih =>
    show sm n f + f n ≤ sm n g + g n
    have := ih (fun i hi => h i (by omega))
    have := h n (by omega)
    omega
theorem sm_nn {n : Nat} {f : Nat → Int} (h : ∀ i, i < n → 0 ≤ f i) : 0 ≤ sm n f := by
  have := sm_le (f := fun _ => 0) (g := f) (n := n) h
  rw [sm_zero (fun _ _ => rfl)] at this
  exact this
theorem sm_av (n : Nat) (f : Nat → Int) : av (sm n f) ≤ sm n (fun i => av (f i)) := by
  induction n with
  | zero => show av 0 ≤ 0; decide
  | succ n ih =>
    show av (sm n f + f n) ≤ sm n (fun i => av (f i)) + av (f n)
    have := av_add (sm n f) (f n)
    omega
theorem sm_const (n : Nat) (c : Int) : sm n (fun _ => c) = (n : Int) * c := by
  induction n with
  | zero => show (0 : Int) = ((0 : Nat) : Int) * c; omega
  | succ n ih =>
    show sm n (fun _ => c) + c = _
    rw [ih]
    grind
theorem sm_ge1 {n : Nat} {f : Nat → Int} (h : ∀ i, i < n → 0 ≤ f i) {k : Nat} (hk : k < n) : f k ≤ sm n f := by
  have h1 : sm n (fun i => if i = k then f k else 0) ≤ sm n f := sm_le (fun i hi => by
    by_cases e : i = k
    · rw [if_pos e, e]; exact Int.le_refl _
    · rw [if_neg e]; exact h i hi)
  rw [sm_one hk (fun i _ hi => if_neg hi), if_pos rfl] at h1
  exact h1
/-- rows of absolute sum at most 9: powers -/
theorem mp_row {N : Nat} {A : Nat → Nat → Int} (h : ∀ i, i < N → sm N (fun j => av (A i j)) ≤ 9) (m : Nat) : ∀ i, i < N → sm N (fun j => av (mp N A m i j)) ≤ (9 : Int) ^ (m + 1) := by
  induction m with
  | zero => exact h
  | succ m ih =>
    intro i hi
    have h1 : sm N (fun j => av (mp N A (m + 1) i j)) ≤ sm N (fun j => sm N (fun k => av (A i k) * av (mp N A m k j))) := sm_le (fun j hj => by
      rw [← mp_comm]
      show av (sm N (fun k => A i k * mp N A m k j)) ≤ _
      refine Int.le_trans (sm_av _ _) (sm_le (fun k _ => ?_))
      rw [av_mul]; exact Int.le_refl _)
    have h2 : sm N (fun j => sm N (fun k => av (A i k) * av (mp N A m k j))) ≤ sm N (fun k => av (A i k) * (9 : Int) ^ (m + 1)) := by
      rw [sm_swap]
      refine sm_le (fun k hk => ?_)
      rw [sm_mul]
      exact Int.mul_le_mul_of_nonneg_left (ih k hk) (av_0 _)
    have h4 : (0 : Int) ≤ 9 ^ (m + 1) := Int.pow_nonneg (by omega)
    have h3 : sm N (fun k => av (A i k) * (9 : Int) ^ (m + 1)) ≤ 9 * (9 : Int) ^ (m + 1) := by
      rw [sm_mulr]
      exact Int.mul_le_mul_of_nonneg_right (h i hi) h4
    have h5 : (9 : Int) ^ (m + 1 + 1) = 9 * 9 ^ (m + 1) := by rw [Int.pow_succ, Int.mul_comm]
    omega
theorem bb_01 (x y : Nat → Nat) (e f : Nat) : bb x y e f = 0 ∨ bb x y e f = 1 := by
  unfold bb
  by_cases h : nxt x y e f
  · rw [if_pos h]; exact Or.inr rfl
  · rw [if_neg h]; exact Or.inl rfl
theorem bb_pair (hG : GA v e f s n now 0 a E x y) (i : Nat) {k : Nat} (hk : k < E) : bb x y i (2 * k) + bb x y i (2 * k + 1) ≤ 1 := by
  have hxy := (hG.2.2.2.2.2.2.2 k hk).2.2.1
  unfold bb
  by_cases h1 : nxt x y i (2 * k)
  · by_cases h2 : nxt x y i (2 * k + 1)
    · have e1 := h1.1
      have e2 := h2.1
      unfold tl at e1 e2
      rw [if_pos (by omega), show 2 * k / 2 = k by omega] at e1
      rw [if_neg (by omega), show (2 * k + 1) / 2 = k by omega] at e2
      exact absurd (e1.symm.trans e2) hxy
    · rw [if_pos h1, if_neg h2]; omega
  · rw [if_neg h1]
    split <;> omega
theorem MM_row (hG : GA v e f s n now 0 a E x y) (w : Nat) : ∀ i, i < 2 * E → sm (2 * E) (fun j => av (MM x y (sgW w n) i j)) ≤ 9 := by
  intro i hi
  have hE := hG.2.2.1
  have h1 : sm (2 * E) (fun j => av (MM x y (sgW w n) i j)) ≤ sm (2 * E) (fun j => bb x y i j) := sm_le (fun j hj => by
    show av (bb x y i j * sgW w n (i / 2)) ≤ _
    rcases bb_01 x y i j with h | h <;> rcases sgW_pm hG w (i / 2) (by omega) with h2 | h2 <;> rw [h, h2] <;> decide)
  have h3 := sm_two E (fun j => bb x y i j)
  have h2 : sm E (fun k => bb x y i (2 * k) + bb x y i (2 * k + 1)) ≤ sm E (fun _ => 1) := sm_le (fun k hk => bb_pair hG i hk)
  rw [sm_const] at h2
  omega
/-- the closed walks, as numbers -/
noncomputable def tw (x y : Nat → Nat) (n : Nat → Int32) (E w m : Nat) : Int := rt x y (sgW w n) E E m
theorem tw_bd (hG : GA v e f s n now 0 a E x y) (w : Nat) {m : Nat} (hm : 1 ≤ m) : av (tw x y n E w m) ≤ 18 * 9 ^ m := by
  obtain ⟨m', rfl⟩ : ∃ m', m = m' + 1 := ⟨m - 1, by omega⟩
  have hE := hG.2.2.1
  have h0 : (0 : Int) ≤ 9 ^ (m' + 1) := Int.pow_nonneg (by omega)
  unfold tw
  rw [← rt_eq hG]
  unfold rtr
  refine Int.le_trans (sm_av _ _) ?_
  have h1 : sm (2 * E) (fun d => av (mp (2 * E) (MM x y (sgW w n)) (m' + 1 - 1) d d)) ≤ sm (2 * E) (fun _ => (9 : Int) ^ (m' + 1)) := sm_le (fun d hd => by
    refine Int.le_trans ?_ (mp_row (MM_row hG w) m' d hd)
    exact sm_ge1 (f := fun j => av (mp (2 * E) (MM x y (sgW w n)) m' d j)) (fun j _ => av_0 _) hd)
  rw [sm_const] at h1
  have h2 : ((2 * E : Nat) : Int) * 9 ^ (m' + 1) ≤ 18 * 9 ^ (m' + 1) := Int.mul_le_mul_of_nonneg_right (by omega) h0
  omega
end PAR
/-- the primitive ones are not many more: 7 p <= 8 t -/
theorem tk_bd {P : Nat → Int} (hp : ∀ m, 1 ≤ m → P m ≤ 18 * 9 ^ m + sm m (fun d => if d = 0 then 0 else P d)) : ∀ M m, m ≤ M → (7 * sm m (fun d => if d = 0 then 0 else P d) ≤ 18 * 9 ^ m) ∧ (1 ≤ m → 7 * P m ≤ 8 * (18 * 9 ^ m)) := by
  intro M
  induction M with
  | zero =>
    intro m hm
    rw [show m = 0 by omega]
    exact ⟨show (7 * 0 : Int) ≤ 18 * 9 ^ 0 by decide, fun h => absurd h (by omega)⟩
  | succ M ih =>
    intro m hm
    by_cases h : m ≤ M
    · exact ih m h
    · obtain rfl : m = M + 1 := by omega
      obtain ⟨i1, i2⟩ := ih M (Nat.le_refl M)
      have e1 : sm (M + 1) (fun d => if d = 0 then 0 else P d) = sm M (fun d => if d = 0 then 0 else P d) + (if M = 0 then 0 else P M) := rfl
      have e2 : (9 : Int) ^ (M + 1) = 9 ^ M * 9 := Int.pow_succ 9 M
      have e3 : (0 : Int) ≤ 9 ^ M := Int.pow_nonneg (by omega)
      have e4 : 7 * sm (M + 1) (fun d => if d = 0 then 0 else P d) ≤ 18 * 9 ^ (M + 1) := by
        rw [e1, e2]
        by_cases h0 : M = 0
        · rw [if_pos h0]; omega
        · rw [if_neg h0]
          have := i2 (by omega)
          omega
      refine ⟨e4, fun _ => ?_⟩
      have h1 := hp (M + 1) (by omega)
      omega
