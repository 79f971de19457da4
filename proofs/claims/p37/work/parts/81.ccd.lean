/-! the polynomial, border by border, is the sum over sets of columns -/
def iu (A : Nat → Nat → Int) (i c : Nat) : PS := letI := psR; dl i c - pu * lft A i c
theorem cc_D (N : Nat) (A : Nat → Nat → Int) : letI := psR; ∀ m, m ≤ N → cc A m = Dk N (iu A) m (al m) := by
  letI := psR
  intro m
  induction m with
  | zero =>
    intro _
    show pc 1 = if cd (al 0) N = 0 then (1 : PS) else 0
    rw [cd_al, if_pos (by omega)]
    rfl
  | succ m ih =>
    intro hm
    have X0 : ∀ i c, iu A i c = dl i c - pu * lft A i c := fun i c => rfl
    have h1 : ∀ l c, l < m → c < m → sR m (fun i => gz m A l i * iu A i c) = dl l c := by
      intro l c hl hc
      have h := gz_hg' (N := m) A l c hl hc
      rw [sR_congr (g := fun i => dl c i * gz m A l i - pu * (gz m A l i * lft A i c)) (fun i _ => by
        rw [X0]
        have : (dl i c : PS) = dl c i := by
          unfold dl
          by_cases e : i = c
          · rw [if_pos e, if_pos e.symm]
          · rw [if_neg e, if_neg (fun h => e h.symm)]
        rw [this]
        grind), sR_sub, sR_dl hc, sR_mul]
      have h : gz m A l c = dl l c + pu * sR m (fun k => gz m A l k * lft A k c) := h
      grind
    have h2 : ∀ c, sR m (fun i => (- pu * sR m (fun l => lft A m l * gz m A l i)) * iu A i c) = - pu * sR m (fun l => lft A m l * sR m (fun i => gz m A l i * iu A i c)) := by
      intro c
      rw [sR_congr (g := fun i => - pu * sR m (fun l => lft A m l * (gz m A l i * iu A i c))) (fun i _ => by
        have : sR m (fun l => lft A m l * (gz m A l i * iu A i c)) = iu A i c * sR m (fun l => lft A m l * gz m A l i) := by
          rw [← sR_mul]
          exact sR_congr (fun l _ => by grind)
        rw [this]
        grind), sR_mul, sR_swap]
      rw [sR_congr (f := fun l => sR m (fun i => lft A m l * (gz m A l i * iu A i c))) (g := fun l => lft A m l * sR m (fun i => gz m A l i * iu A i c)) (fun l _ => sR_mul _ _ _)]
    have hs := Dk_schur (N := N) (k := m) (by omega) (iu A) (fun i => - pu * sR m (fun l => lft A m l * gz m A l i)) (fun c hc => by
      rw [h2, sR_congr (g := fun l => dl c l * lft A m l) (fun l hl => by
        rw [h1 l c hl hc]
        have : (dl l c : PS) = dl c l := by
          unfold dl
          by_cases e : l = c
          · rw [if_pos e, if_pos e.symm]
          · rw [if_neg e, if_neg (fun h => e h.symm)]
        rw [this]
        grind), sR_dl hc, X0]
      have : (dl m c : PS) = 0 := by
        unfold dl
        rw [if_neg (by omega)]
      rw [this]
      grind)
    rw [hs, h2, ← ih (by omega)]
    have h3 : sR m (fun l => lft A m l * sR m (fun i => gz m A l i * iu A i m)) = - (pu * Qs A m) := by
      have e1 : Qs A m = sR m (fun l => lft A m l * sR m (fun k => gz m A l k * lft A k m)) := rfl
      have e2 : - (pu * Qs A m) = (- pu) * Qs A m := by grind
      rw [e2, e1, ← sR_mul]
      refine sR_congr (fun l hl => ?_)
      rw [sR_congr (g := fun i => - pu * (gz m A l i * lft A i m)) (fun i hi => by
        rw [X0]
        have : (dl i m : PS) = 0 := by
          unfold dl
          rw [if_neg (by omega)]
        rw [this]
        grind), sR_mul]
      grind
    have e3 : cc A (m + 1) = cc A m * Ss A m := rfl
    have e4 : Ss A m = 1 - lft A m m * pu - pu * pu * Qs A m := rfl
    have e5 : (dl m m : PS) = 1 := by
      unfold dl
      rw [if_pos rfl]
    rw [h3, e3, e4, X0, e5]
    grind
theorem sR_int (n : Nat) (f : Nat → Int) : sR n f = sm n f := by
  induction n with
  | zero => rfl
  | succ n ih =>
    show sR n f + f n = sm n f + f n
    rw [ih]
theorem iu_co (A : Nat → Nat → Int) (i j c : Nat) (b : Bool) (P : PS) : letI := psR; (sgb b * (iu A i j * P)) c = sgb b * ((if i = j then P c else 0) - A i j * (if c = 0 then 0 else P (c - 1))) := by
  letI := psR
  have e1 : iu A i j * P = dl i j * P - pu * (lft A i j * P) := by
    have : iu A i j = dl i j - pu * lft A i j := rfl
    rw [this]
    grind
  have e2 : (iu A i j * P) c = (if i = j then P c else 0) - A i j * (if c = 0 then 0 else P (c - 1)) := by
    rw [e1]
    show cv (dl i j) P c - cv pu (cv (pc (A i j)) P) c = _
    rw [cv_u]
    have e3 : cv (dl i j) P c = if i = j then P c else 0 := by
      unfold dl
      by_cases h : i = j
      · rw [if_pos h, if_pos h]
        show cv (pc 1) P c = _
        rw [cv_c, Int.one_mul]
      · rw [if_neg h, if_neg h]
        show cv (pc 0) P c = _
        rw [cv_c, Int.zero_mul]
    rw [e3]
    by_cases h : c = 0
    · rw [if_pos h, if_pos h, Int.mul_zero]
    · rw [if_neg h, if_neg h, cv_c]
  rw [← e2]
  cases b with
  | false =>
    have e4 : (sgb false : PS) * (iu A i j * P) = iu A i j * P := by
      unfold sgb
      rw [if_neg (by decide)]
      grind
    have e5 : (sgb false : Int) = 1 := rfl
    rw [e4, e5, Int.one_mul]
  | true =>
    have e4 : (sgb true : PS) * (iu A i j * P) = - (iu A i j * P) := by
      unfold sgb
      rw [if_pos rfl]
      grind
    have e5 : (sgb true : Int) = -1 := rfl
    rw [e4, e5]
    show - (iu A i j * P) c = _
    omega
theorem Lw_co (N : Nat) (A : Nat → Nat → Int) (i : Nat) (v : (Nat → Bool) → PS) (S : Nat → Bool) (c : Nat) : letI := psR; Lw N (iu A i) v S c = sm N (fun j => if S j = true then sgb (par S j N) * ((if i = j then v (rmS S j) c else 0) - A i j * (if c = 0 then 0 else v (rmS S j) (c - 1))) else 0) := by
  letI := psR
  unfold Lw
  rw [sR_co]
  refine sm_congr (fun j _ => ?_)
  by_cases h : S j = true
  · rw [if_pos h, if_pos h]
    exact iu_co A i j c _ _
  · rw [if_neg h, if_neg h]
    show (if c = 0 then ((0 : Nat) : Int) else 0) = 0
    split <;> rfl
theorem Dk_deg (N : Nat) (A : Nat → Nat → Int) : letI := psR; ∀ k S c, k < c → Dk N (iu A) k S c = 0 := by
  letI := psR
  intro k
  induction k with
  | zero =>
    intro S c hc
    show (if cd S N = 0 then (1 : PS) else 0) c = 0
    by_cases h : cd S N = 0
    · rw [if_pos h]
      show (if c = 0 then ((1 : Nat) : Int) else 0) = 0
      rw [if_neg (by omega)]
    · rw [if_neg h]
      show (if c = 0 then ((0 : Nat) : Int) else 0) = 0
      split <;> rfl
  | succ k ih =>
    intro S c hc
    show Lw N (iu A k) (Dk N (iu A) k) S c = 0
    rw [Lw_co]
    refine sm_zero (fun j _ => ?_)
    rw [ih _ c (by omega), ih _ (c - 1) (by omega), if_neg (show ¬ c = 0 by omega)]
    by_cases h : S j = true
    · have e : (if k = j then (0 : Int) else 0) = 0 := by split <;> rfl
      rw [if_pos h, e, Int.mul_zero]; simp
    · rw [if_neg h]
theorem cc_deg (A : Nat → Nat → Int) (n c : Nat) (h : n < c) : cc A n c = 0 := by
  rw [cc_D n A n (Nat.le_refl n)]
  exact Dk_deg n A n _ c h
/-- the last coefficient -/
theorem Dk_top (N : Nat) (A : Nat → Nat → Int) : ∀ k S, @Dk PS psR N (iu A) k S k = Dk N (fun i j => - A i j) k S := by
  intro k
  induction k with
  | zero =>
    intro S
    show (if cd S N = 0 then (letI := psR; (1 : PS)) else (letI := psR; (0 : PS))) 0 = if cd S N = 0 then (1 : Int) else 0
    by_cases h : cd S N = 0
    · rw [if_pos h, if_pos h]; rfl
    · rw [if_neg h, if_neg h]; rfl
  | succ k ih =>
    intro S
    show @Lw PS psR N (iu A k) (@Dk PS psR N (iu A) k) S (k + 1) = Lw N (fun j => - A k j) (Dk N (fun i j => - A i j) k) S
    rw [Lw_co]
    unfold Lw
    rw [sR_int]
    refine sm_congr (fun j _ => ?_)
    by_cases h : S j = true
    · rw [if_pos h, if_pos h, Dk_deg N A k _ (k + 1) (by omega), if_neg (show ¬ k + 1 = 0 by omega), show k + 1 - 1 = k from rfl, ih]
      have e : (if k = j then (0 : Int) else 0) = 0 := by split <;> rfl
      rw [e, Int.zero_sub, Int.neg_mul]
    · rw [if_neg h, if_neg h]
