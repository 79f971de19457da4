theorem Ev_of {a b : PS} (h : ∀ n, ∃ d, a n = b n + 2 * d) : Ev a b := by
  letI := psR
  obtain ⟨f, hf⟩ := Classical.axiomOfChoice h
  refine ⟨f, PS.ext' (fun n => ?_)⟩
  show a n = b n + cv (pc 2) f n
  rw [cv_c]; exact hf n
theorem Ev_co {a b : PS} (h : Ev a b) (n : Nat) : ∃ d, a n = b n + 2 * d := by
  letI := psR
  obtain ⟨f, hf⟩ := h
  have hf : a = b + 2 * f := hf
  refine ⟨f n, ?_⟩
  rw [hf]
  show b n + cv (pc 2) f n = _
  rw [cv_c]
theorem pow_m1 (n : Nat) : (-1 : Int) ^ n = if n % 2 = 0 then 1 else -1 := by
  induction n with
  | zero => rfl
  | succ n ih =>
    rw [Int.pow_succ, ih]
    by_cases h : n % 2 = 0
    · rw [if_pos h, if_neg (by omega)]; rfl
    · rw [if_neg h, if_pos (by omega)]; rfl
theorem hev1 (k : Nat) : Ev (pq k 1) (pq k (-1)) := Ev_of (fun n => by
  unfold pq
  by_cases h : n = 0
  · rw [if_pos h, if_pos h]; exact ⟨0, by omega⟩
  · rw [if_neg h, if_neg h]
    by_cases h2 : n = k
    · rw [if_pos h2, if_pos h2]; exact ⟨-1, by omega⟩
    · rw [if_neg h2, if_neg h2]; exact ⟨0, by omega⟩)
theorem hev2 (k : Nat) : Ev (pg k 1) (pg k (-1)) := Ev_of (fun n => by
  unfold pg
  by_cases h : n % k = 0
  · rw [if_pos h, if_pos h, Int.one_pow, pow_m1]
    by_cases h2 : n / k % 2 = 0
    · rw [if_pos h2]; exact ⟨0, by omega⟩
    · rw [if_neg h2]; exact ⟨1, by omega⟩
  · rw [if_neg h, if_neg h]; exact ⟨0, by omega⟩)
