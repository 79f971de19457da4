/-! spanning trees: the determinant counts them -/
def img (n : Nat) (g : Nat → Nat) (i : Nat) : Bool := decide (∃ v, v < n ∧ g v = i)
theorem img_t {n : Nat} {g : Nat → Nat} {i : Nat} : img n g i = true ↔ ∃ v, v < n ∧ g v = i := by
  unfold img
  exact decide_eq_true_iff
theorem img_f {n : Nat} {g : Nat → Nat} {i : Nat} : img n g i = false ↔ ¬ ∃ v, v < n ∧ g v = i := by
  rw [← img_t]
  cases img n g i <;> simp
theorem ug_ne {g : Nat → Nat} {p q : Nat} (h : g p ≠ g q) (w : Nat) : ug g p q w = if g w = g q then g p else g w := by
  unfold ug
  rw [if_neg h]
theorem ug_eq {g : Nat → Nat} {p q : Nat} (h : g p = g q) : ug g p q = g := by
  funext w
  unfold ug
  rw [if_pos h]
theorem img_ug {n : Nat} {g : Nat → Nat} {p q : Nat} (h : g p ≠ g q) (hp : p < n) : img n (ug g p q) = rmS (img n g) (g q) := by
  funext i
  by_cases e : i = g q
  · rw [e, rmS_self, img_f]
    rintro ⟨w, -, hw⟩
    rw [ug_ne h] at hw
    by_cases c : g w = g q
    · rw [if_pos c] at hw; exact h hw
    · rw [if_neg c] at hw; exact c hw
  · rw [rmS_ne _ e]
    by_cases c : img n g i = true
    · rw [c, img_t]
      obtain ⟨w, h1, h2⟩ := img_t.mp c
      exact ⟨w, h1, by rw [ug_ne h, if_neg (by rw [h2]; exact e), h2]⟩
    · have c' : img n g i = false := by simpa using c
      rw [c', img_f]
      rintro ⟨w, h1, h2⟩
      rw [ug_ne h] at h2
      by_cases c2 : g w = g q
      · rw [if_pos c2] at h2; exact c (img_t.mpr ⟨p, hp, h2⟩)
      · rw [if_neg c2] at h2; exact c (img_t.mpr ⟨w, h1, h2⟩)
theorem ug_lt {n : Nat} {g : Nat → Nat} {p q : Nat} (hg : ∀ w, w < n → g w < n) (hp : p < n) : ∀ w, w < n → ug g p q w < n := by
  intro w hw
  unfold ug
  split
  · exact hg w hw
  · split
    · exact hg p hp
    · exact hg w hw
/-- the ends of an edge, among the groups -/
def gm (g : Nat → Nat) (p q i : Nat) : Int := in1 (i = g p) - in1 (i = g q)
theorem in1_ug {g : Nat → Nat} {p q : Nat} (h : g p ≠ g q) {i : Nat} (hi : i ≠ g q) (w : Nat) : in1 (i = ug g p q w) = in1 (i = g w) + in1 (i = g p) * in1 (g q = g w) := by
  rw [ug_ne h]
  by_cases c : g w = g q
  · rw [if_pos c, in1_f (show ¬ i = g w by rw [c]; exact hi), in1_t c.symm]; omega
  · rw [if_neg c, in1_f (show ¬ g q = g w from fun k => c k.symm)]; omega
theorem in1_uc {g : Nat → Nat} {p q : Nat} (h : g p ≠ g q) (w : Nat) : in1 (g q = ug g p q w) = 0 := by
  rw [ug_ne h]
  by_cases c : g w = g q
  · rw [if_pos c, in1_f (fun k => h k.symm)]
  · rw [if_neg c, in1_f (fun k => c k.symm)]
theorem gm_ug {g : Nat → Nat} {p q : Nat} (h : g p ≠ g q) {i : Nat} (hi : i ≠ g q) (u w : Nat) : gm (ug g p q) u w i = gm g u w i + in1 (i = g p) * gm g u w (g q) := by
  unfold gm
  rw [in1_ug h hi, in1_ug h hi]
  grind
theorem gm_uc {g : Nat → Nat} {p q : Nat} (h : g p ≠ g q) (u w : Nat) : gm (ug g p q) u w (g q) = 0 := by
  unfold gm
  rw [in1_uc h, in1_uc h]; rfl
def lapG (x y : Nat → Nat) (E : Nat) (g : Nat → Nat) : Nat → Nat → Nat → Int
  | 0, _, _ => 0
  | d + 1, i, j => lapG x y E g d i j + gm g (x (E - 1 - d)) (y (E - 1 - d)) i * gm g (x (E - 1 - d)) (y (E - 1 - d)) j
noncomputable def dlt (n : Nat) (g : Nat → Nat) (i : Nat) : Int := in1 (img n g i = false) + in1 (i = g (n - 1))
noncomputable def KG (x y : Nat → Nat) (E n : Nat) (g : Nat → Nat) (d i j : Nat) : Int := lapG x y E g d i j + in1 (i = j) * dlt n g i
theorem lap_uc {x y : Nat → Nat} {E : Nat} {g : Nat → Nat} {p q : Nat} (h : g p ≠ g q) (d : Nat) : (∀ j, lapG x y E (ug g p q) d (g q) j = 0) ∧ ∀ i, lapG x y E (ug g p q) d i (g q) = 0 := by
  induction d with
  | zero => exact ⟨fun _ => rfl, fun _ => rfl⟩
  | succ d ih =>
    refine ⟨fun j => ?_, fun i => ?_⟩
    · show lapG x y E (ug g p q) d (g q) j + gm _ _ _ (g q) * _ = 0
      rw [ih.1, gm_uc h]; omega
    · show lapG x y E (ug g p q) d i (g q) + _ * gm _ _ _ (g q) = 0
      rw [ih.2, gm_uc h]; omega
theorem lap_ug {x y : Nat → Nat} {E : Nat} {g : Nat → Nat} {p q : Nat} (h : g p ≠ g q) {i j : Nat} (hi : i ≠ g q) (hj : j ≠ g q) (d : Nat) : lapG x y E (ug g p q) d i j = lapG x y E g d i j + in1 (i = g p) * lapG x y E g d (g q) j + in1 (j = g p) * (lapG x y E g d i (g q) + in1 (i = g p) * lapG x y E g d (g q) (g q)) := by
  induction d with
  | zero => show (0 : Int) = 0 + in1 (i = g p) * 0 + in1 (j = g p) * (0 + in1 (i = g p) * 0); omega
  | succ d ih =>
    show lapG x y E (ug g p q) d i j + gm (ug g p q) _ _ i * gm (ug g p q) _ _ j = (lapG x y E g d i j + _) + in1 (i = g p) * (lapG x y E g d (g q) j + _) + in1 (j = g p) * ((lapG x y E g d i (g q) + _) + in1 (i = g p) * (lapG x y E g d (g q) (g q) + _))
    rw [ih, gm_ug h hi, gm_ug h hj]
    grind
theorem KG_ct {x y : Nat → Nat} {E n : Nat} {g : Nat → Nat} {p q : Nat} (h : g p ≠ g q) (hp : p < n) (hq : q < n) (d i j : Nat) : ctq (g p) (g q) (KG x y E n g d) i j = KG x y E n (ug g p q) d i j := by
  have hi1 := img_ug (n := n) h hp
  have hcq : img n g (g q) = true := img_t.mpr ⟨q, hq, rfl⟩
  unfold ctq KG
  by_cases c : i = g q ∨ j = g q
  · rw [if_pos c]
    have l0 : lapG x y E (ug g p q) d i j = 0 := by
      rcases c with c | c
      · rw [c]; exact (lap_uc h d).1 j
      · rw [c]; exact (lap_uc h d).2 i
    rw [l0]
    by_cases e : i = j
    · have e2 : i = g q := by omega
      have hd1 : dlt n (ug g p q) i = 1 := by
        unfold dlt
        rw [hi1, e2, rmS_self, in1_t rfl, in1_uc h]; rfl
      rw [hd1, in1_t e]; rfl
    · rw [in1_f e]; omega
  · have hi : i ≠ g q := fun k => c (Or.inl k)
    have hj : j ≠ g q := fun k => c (Or.inr k)
    rw [if_neg c, lap_ug h hi hj]
    have z1 : in1 (g q = j) = 0 := in1_f (fun k => hj k.symm)
    have z2 : in1 (i = g q) = 0 := in1_f hi
    have z3 : in1 (g q = g q) = 1 := in1_t rfl
    have d1 : dlt n (ug g p q) i = dlt n g i + in1 (i = g p) * in1 (g q = g (n - 1)) := by
      unfold dlt
      rw [hi1, rmS_ne _ hi, in1_ug h hi]; omega
    have d2 : dlt n g (g q) = in1 (g q = g (n - 1)) := by
      unfold dlt
      rw [hcq, in1_f (by decide)]; omega
    rw [z1, z2, z3, d1, d2]
    by_cases e : i = j
    · rw [← e, in1_t (show i = i from rfl)]
      by_cases e2 : i = g p
      · rw [in1_t e2]; omega
      · rw [in1_f e2]; omega
    · rw [in1_f e]
      by_cases e2 : i = g p
      · have e3 : ¬ j = g p := fun k => e (e2.trans k.symm)
        rw [in1_t e2, in1_f e3]; omega
      · rw [in1_f e2]
        by_cases e3 : j = g p
        · rw [in1_t e3]; omega
        · rw [in1_f e3]; omega
noncomputable def cn (x y : Nat → Nat) (E n : Nat) : Nat → (Nat → Nat) → Int
  | 0, g => if cd (img n g) n = 1 then 1 else 0
  | d + 1, g => cn x y E n d g + if g (x (E - 1 - d)) = g (y (E - 1 - d)) then 0 else cn x y E n d (ug g (x (E - 1 - d)) (y (E - 1 - d)))
theorem dt_diag {N : Nat} {A : Nat → Nat → Int} (h : ∀ i j, i ≠ j → A i j = 0) {k : Nat} (hk : k < N) : dt N A (k + 1) = A k k * dt N A k := by
  unfold dt
  have z : ∀ c, sR k (fun i => (0 : Int) * A i c) = 0 := fun c => sR_zero (fun i _ => Int.zero_mul _)
  rw [Dk_schur hk A (fun _ => 0) (fun c hc => by rw [z, h k c (by omega)]), z, Int.sub_zero]
theorem dt_diag1 {N : Nat} {A : Nat → Nat → Int} (h : ∀ i j, i ≠ j → A i j = 0) : ∀ k, k ≤ N → (∀ i, i < k → A i i = 1) → dt N A k = 1 := by
  intro k
  induction k with
  | zero =>
    intro _ _
    show (if cd (al 0) N = 0 then (1 : Int) else 0) = 1
    rw [cd_al, if_pos (by omega)]
  | succ k ih =>
    intro hk h1
    rw [dt_diag h (by omega), h1 k (by omega), ih (by omega) (fun i hi => h1 i (by omega))]; rfl
theorem dt_diag0 {N : Nat} {A : Nat → Nat → Int} (h : ∀ i j, i ≠ j → A i j = 0) {l : Nat} (h0 : A l l = 0) : ∀ k, k ≤ N → l < k → dt N A k = 0 := by
  intro k
  induction k with
  | zero => intro _ hl; exact absurd hl (Nat.not_lt_zero l)
  | succ k ih =>
    intro hk hl
    rw [dt_diag h (by omega)]
    by_cases e : l = k
    · rw [← e, h0, Int.zero_mul]
    · rw [ih (by omega) (by omega), Int.mul_zero]
theorem cd_ne {S : Nat → Bool} : ∀ N, cd S N ≠ 0 → ∃ i, i < N ∧ S i = true := by
  intro N
  induction N with
  | zero => intro h; exact absurd rfl h
  | succ n ih =>
    intro h
    by_cases hn : S n = true
    · exact ⟨n, by omega, hn⟩
    · have e : cd S (n + 1) = cd S n + (if S n = true then 1 else 0) := rfl
      rw [if_neg hn] at e
      obtain ⟨i, h1, h2⟩ := ih (by omega)
      exact ⟨i, by omega, h2⟩
theorem KG_0 {x y : Nat → Nat} {E n : Nat} {g : Nat → Nat} (hn : 1 ≤ n) (hg : ∀ w, w < n → g w < n) : dt n (KG x y E n g 0) n = if cd (img n g) n = 1 then 1 else 0 := by
  have hoff : ∀ i j, i ≠ j → KG x y E n g 0 i j = 0 := fun i j h => by
    show 0 + in1 (i = j) * _ = 0
    rw [in1_f h]; omega
  have hon : ∀ i, KG x y E n g 0 i i = dlt n g i := fun i => by
    show 0 + in1 (i = i) * _ = _
    rw [in1_t rfl]; omega
  have hgn := hg (n - 1) (by omega)
  have hgi : img n g (g (n - 1)) = true := img_t.mpr ⟨n - 1, by omega, rfl⟩
  have hc := cd_rmS (img n g) (g (n - 1)) n
  rw [if_pos ⟨hgn, hgi⟩] at hc
  by_cases h : cd (rmS (img n g) (g (n - 1))) n = 0
  · rw [if_pos (by omega)]
    refine dt_diag1 hoff n (Nat.le_refl n) (fun i hi => ?_)
    rw [hon]
    unfold dlt
    have h2 := cd_0 n h i hi
    by_cases e : i = g (n - 1)
    · rw [e, hgi, in1_f (by decide), in1_t rfl]; rfl
    · rw [rmS_ne _ e] at h2
      rw [h2, in1_t rfl, in1_f e]; rfl
  · rw [if_neg (by omega)]
    obtain ⟨i, h1, h2⟩ := cd_ne n h
    have e : i ≠ g (n - 1) := fun k => by
      rw [k, rmS_self] at h2
      exact absurd h2 (by decide)
    rw [rmS_ne _ e] at h2
    refine dt_diag0 hoff (l := i) ?_ n (Nat.le_refl n) h1
    rw [hon]
    unfold dlt
    rw [h2, in1_f (by decide), in1_f e]; rfl
theorem KG_cn {x y : Nat → Nat} {E n : Nat} (hn : 1 ≤ n) (hxy : ∀ k, k < E → x k < n ∧ y k < n) : ∀ d, d ≤ E → ∀ g : Nat → Nat, (∀ w, w < n → g w < n) → dt n (KG x y E n g d) n = cn x y E n d g := by
  intro d
  induction d with
  | zero => intro _ g hg; exact KG_0 hn hg
  | succ d ih =>
    intro hd g hg
    obtain ⟨hx, hy⟩ := hxy (E - 1 - d) (by omega)
    have hB : ∀ i j, KG x y E n g (d + 1) i j = KG x y E n g d i j + gm g (x (E - 1 - d)) (y (E - 1 - d)) i * gm g (x (E - 1 - d)) (y (E - 1 - d)) j := fun i j => by
      show (lapG x y E g d i j + _) + _ = (lapG x y E g d i j + _) + _
      omega
    show _ = cn x y E n d g + if g (x (E - 1 - d)) = g (y (E - 1 - d)) then 0 else cn x y E n d (ug g (x (E - 1 - d)) (y (E - 1 - d)))
    rw [← ih (by omega) g hg]
    by_cases h : g (x (E - 1 - d)) = g (y (E - 1 - d))
    · rw [if_pos h, Int.add_zero]
      refine Dk_rows n (fun i c _ _ => ?_) (al n)
      rw [hB]
      unfold gm
      rw [h]; omega
    · rw [if_neg h, ← ih (by omega) _ (ug_lt hg hx), dt_edge h (hg _ hx) (hg _ hy) (KG x y E n g d) _ (fun i j _ _ => hB i j)]
      congr 1
      exact Dk_rows n (fun i c _ _ => KG_ct h hx hy d i c) (al n)
/-- whether the chosen edges never close a circle -/
def fs (x y : Nat → Nat) (E : Nat) : Nat → (Nat → Nat) → Nat → Bool
  | 0, _, _ => true
  | d + 1, g, s => if s % 2 = 1 then (if g (x (E - 1 - d)) = g (y (E - 1 - d)) then false else fs x y E d (ug g (x (E - 1 - d)) (y (E - 1 - d))) (s / 2)) else fs x y E d g (s / 2)
theorem cd_sh (s : Nat) : ∀ d, cd (bit s) (d + 1) = s % 2 + cd (bit (s / 2)) d := by
  intro d
  induction d with
  | zero =>
    show 0 + (if bit s 0 = true then 1 else 0) = s % 2 + 0
    unfold bit
    rw [Nat.testBit_zero]
    by_cases h : s % 2 = 1
    · rw [if_pos (decide_eq_true h), h]
    · rw [if_neg (by rw [decide_eq_true_eq]; exact h)]; omega
  | succ d ih =>
    show cd (bit s) (d + 1) + (if bit s (d + 1) = true then 1 else 0) = s % 2 + (cd (bit (s / 2)) d + if bit (s / 2) d = true then 1 else 0)
    rw [ih]
    have e : bit s (d + 1) = bit (s / 2) d := by
      unfold bit
      exact Nat.testBit_succ s d
    rw [e]; omega
noncomputable def tre (x y : Nat → Nat) (E n d : Nat) (g : Nat → Nat) (s : Nat) : Int := if fs x y E d g s = true ∧ cd (bit s) d + 1 = cd (img n g) n then 1 else 0
theorem tre_sum {x y : Nat → Nat} {E n : Nat} (hxy : ∀ k, k < E → x k < n ∧ y k < n) : ∀ d, d ≤ E → ∀ g : Nat → Nat, (∀ w, w < n → g w < n) → sm (2 ^ d) (tre x y E n d g) = cn x y E n d g := by
  intro d
  induction d with
  | zero =>
    intro _ g hg
    show 0 + tre x y E n 0 g 0 = if cd (img n g) n = 1 then 1 else 0
    unfold tre
    have e : (fs x y E 0 g 0 = true ∧ cd (bit 0) 0 + 1 = cd (img n g) n) ↔ cd (img n g) n = 1 := ⟨fun h => h.2.symm, fun h => ⟨rfl, h.symm⟩⟩
    by_cases h : cd (img n g) n = 1
    · rw [if_pos h, if_pos (e.mpr h)]; rfl
    · rw [if_neg h, if_neg (fun k => h (e.mp k))]; rfl
  | succ d ih =>
    intro hd g hg
    obtain ⟨hx, hy⟩ := hxy (E - 1 - d) (by omega)
    show _ = cn x y E n d g + if g (x (E - 1 - d)) = g (y (E - 1 - d)) then 0 else cn x y E n d (ug g (x (E - 1 - d)) (y (E - 1 - d)))
    rw [Nat.pow_succ, Nat.mul_comm, sm_two, sm_add, ← ih (by omega) g hg]
    congr 1
    · refine sm_congr (fun s _ => ?_)
      unfold tre
      rw [cd_sh, show 2 * s % 2 = 0 by omega, show 2 * s / 2 = s by omega, Nat.zero_add]
      have e : fs x y E (d + 1) g (2 * s) = fs x y E d g s := by
        show (if 2 * s % 2 = 1 then _ else fs x y E d g (2 * s / 2)) = _
        rw [if_neg (by omega), show 2 * s / 2 = s by omega]
      rw [e]
    · by_cases h : g (x (E - 1 - d)) = g (y (E - 1 - d))
      · rw [if_pos h]
        refine sm_zero (fun s _ => ?_)
        unfold tre
        have e : fs x y E (d + 1) g (2 * s + 1) = false := by
          show (if (2 * s + 1) % 2 = 1 then (if g (x (E - 1 - d)) = g (y (E - 1 - d)) then false else _) else _) = _
          rw [if_pos (by omega), if_pos h]
        rw [e, if_neg (fun k => absurd k.1 (by decide))]
      · rw [if_neg h, ← ih (by omega) _ (ug_lt hg hx)]
        refine sm_congr (fun s _ => ?_)
        unfold tre
        have e : fs x y E (d + 1) g (2 * s + 1) = fs x y E d (ug g (x (E - 1 - d)) (y (E - 1 - d))) s := by
          show (if (2 * s + 1) % 2 = 1 then (if g (x (E - 1 - d)) = g (y (E - 1 - d)) then false else fs x y E d _ ((2 * s + 1) / 2)) else _) = _
          rw [if_pos (by omega), if_neg h, show (2 * s + 1) / 2 = s by omega]
        have hc := cd_rmS (img n g) (g (y (E - 1 - d))) n
        rw [if_pos ⟨hg _ hy, img_t.mpr ⟨_, hy, rfl⟩⟩, ← img_ug h hx] at hc
        rw [e, cd_sh, show (2 * s + 1) % 2 = 1 by omega, show (2 * s + 1) / 2 = s by omega, hc]
        generalize fs x y E d (ug g (x (E - 1 - d)) (y (E - 1 - d))) s = b
        generalize cd (img n (ug g (x (E - 1 - d)) (y (E - 1 - d)))) n = c1
        generalize cd (bit s) d = c2
        by_cases hk : b = true ∧ c2 + 1 = c1
        · rw [if_pos hk, if_pos ⟨hk.1, by omega⟩]
        · rw [if_neg hk, if_neg (fun q => hk ⟨q.1, by omega⟩)]
/-- columns of the matrix of differences have the sum 0 -/
theorem lap_col {x y : Nat → Nat} {E n : Nat} (hxy : ∀ k, k < E → x k < n ∧ y k < n) (c : Nat) : ∀ d, d ≤ E → sm n (fun i => lapG x y E (fun k => k) d i c) = 0 := by
  intro d
  induction d with
  | zero => intro _; exact sm_zero (fun _ _ => rfl)
  | succ d ih =>
    intro hd
    obtain ⟨hx, hy⟩ := hxy (E - 1 - d) (by omega)
    show sm n (fun i => lapG x y E (fun k => k) d i c + gm (fun k => k) (x (E - 1 - d)) (y (E - 1 - d)) i * gm (fun k => k) (x (E - 1 - d)) (y (E - 1 - d)) c) = 0
    rw [sm_add, ih (by omega), sm_mulr]
    have e : sm n (fun i => gm (fun k => k) (x (E - 1 - d)) (y (E - 1 - d)) i) = 0 := by
      show sm n (fun i => in1 (i = x (E - 1 - d)) - in1 (i = y (E - 1 - d))) = 0
      rw [sm_sub, sm_one hx (fun i _ h => in1_f h), sm_one hy (fun i _ h => in1_f h), in1_t rfl, in1_t rfl]; rfl
    rw [e]; omega
theorem mtt {x y : Nat → Nat} {E m : Nat} (hxy : ∀ k, k < E → x k < m + 1 ∧ y k < m + 1) : dt m (lapG x y E (fun k => k) E) m = sm (2 ^ E) (tre x y E (m + 1) E (fun k => k)) := by
  rw [tre_sum hxy E (Nat.le_refl E) (fun k => k) (fun w hw => hw), ← KG_cn (by omega) hxy E (Nat.le_refl E) (fun k => k) (fun w hw => hw)]
  have hrow : ∀ i, i < m + 1 → ∀ c, KG x y E (m + 1) (fun k => k) E i c = lapG x y E (fun k => k) E i c + in1 (i = c) * in1 (i = m) := fun i hi c => by
    show _ + in1 (i = c) * (in1 (img (m + 1) (fun k => k) i = false) + in1 (i = m + 1 - 1)) = _
    have : img (m + 1) (fun k => k) i = true := img_t.mpr ⟨i, hi, rfl⟩
    rw [this, in1_f (show ¬ true = false by decide), show m + 1 - 1 = m from rfl, Int.zero_add]
  show _ = Lw (m + 1) (KG x y E (m + 1) (fun k => k) E m) (Dk (m + 1) (KG x y E (m + 1) (fun k => k) E) m) (al (m + 1))
  rw [Lw_congr (r' := fun c => lapG x y E (fun k => k) E m c + in1 (c = m)) (v' := Dk (m + 1) (lapG x y E (fun k => k) E) m) (fun c hc _ => by
    rw [hrow m (by omega), in1_t rfl]
    by_cases h : m = c
    · rw [in1_t h, in1_t h.symm]; rfl
    · rw [in1_f h, in1_f (fun k => h k.symm)]; rfl) (fun c _ _ => Dk_rows m (fun i c hi _ => by rw [hrow i (by omega), in1_f (show ¬ i = m by omega)]; omega) _)]
  rw [Dk_comb (m + 1) (lapG x y E (fun k => k) E) m _ (fun _ => -1)]
  have hz : ∀ c, lapG x y E (fun k => k) E m c + in1 (c = m) - sR m (fun i => (-1 : Int) * lapG x y E (fun k => k) E i c) = in1 (c = m) := fun c => by
    have h1 := lap_col hxy c E (Nat.le_refl E)
    have h2 : sm (m + 1) (fun i => lapG x y E (fun k => k) E i c) = sm m (fun i => lapG x y E (fun k => k) E i c) + lapG x y E (fun k => k) E m c := rfl
    rw [sR_mul, sR_int]
    omega
  rw [Lw_congr (r' := fun c => in1 (c = m)) (v' := Dk (m + 1) (lapG x y E (fun k => k) E) m) (fun c _ _ => hz c) (fun _ _ _ => rfl), Lw_last (by omega) _ _ (fun c hc => in1_f (by omega)), in1_t rfl, Int.one_mul]
  have e1 := dt_cc (m + 1) (lapG x y E (fun k => k) E) m (by omega)
  have e2 := dt_cc m (lapG x y E (fun k => k) E) m (Nat.le_refl m)
  exact e2.trans e1.symm
