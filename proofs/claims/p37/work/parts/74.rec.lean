def rcT (G : (Nat → Int) → Nat → Int) : Nat → Nat → Int
  | 0 => fun _ => 0
  | m + 1 => fun k => if k = m then G (rcT G m) m else rcT G m k
theorem exRec (G : (Nat → Int) → Nat → Int) (hG : ∀ m p q, (∀ d, d < m → p d = q d) → G p m = G q m) : ∃ p : Nat → Int, ∀ m, p m = G p m := by
  have h1 : ∀ M k, k < M → rcT G M k = rcT G (k + 1) k := by
    intro M
    induction M with
    | zero => intro k hk; exact absurd hk (Nat.not_lt_zero k)
    | succ M ih =>
      intro k hk
      by_cases h : k = M
      · rw [h]
      · show (if k = M then _ else rcT G M k) = _
        rw [if_neg h]; exact ih k (by omega)
  refine ⟨fun k => rcT G (k + 1) k, fun m => ?_⟩
  show (if m = m then G (rcT G m) m else rcT G m m) = _
  rw [if_pos rfl]
  exact hG m _ _ (fun d hd => h1 m d hd)
theorem exP (t : Nat → Int) : ∃ p : Nat → Int, ∀ m, p m = t m - tk p m m := exRec (fun p m => t m - tk p m m) (fun m p q h => by
  show t m - tk p m m = t m - tk q m m
  congr 1
  unfold tk
  exact sm_congr (fun d hd => by rw [h d hd]))
theorem exPs (t p : Nat → Int) : ∃ ps : Nat → Int, ∀ m, ps m = t m - tks p ps m m := exRec (fun ps m => t m - tks p ps m m) (fun m p' q h => by
  show t m - tks p p' m m = t m - tks p q m m
  congr 1
  unfold tks
  exact sm_congr (fun d hd => by rw [h d hd]))
/-- m divides p(m), and 2 m divides p(m) + ps(m) and p(m) - ps(m) -/
theorem prm_div {t ts p ps : Nat → Int} {F0 S0 T0 U0 : PS} (hF : NW F0 T0) (hS : NW S0 U0) (hE : Ev F0 S0) (f0 : F0 0 = 1) (s0 : S0 0 = 1) (hT : T0 0 = 0 ∧ ∀ n, 1 ≤ n → T0 n = t n) (hU : U0 0 = 0 ∧ ∀ n, 1 ≤ n → U0 n = ts n) (hp : ∀ m, 1 ≤ m → p m = t m - tk p m m) (hps : ∀ m, 1 ≤ m → ps m = ts m - tks p ps m m) : ∀ m, 1 ≤ m → ∃ a b : Int, p m = (m : Int) * (a + b) ∧ ps m = (m : Int) * (a - b) := by
  intro m hm
  obtain ⟨F, S, T, U, a1, a2, a3, a4, a5, a6, a7, a8, a9⟩ := prm_main hF hS hE f0 s0 hT hU hp hps m hm
  have e1 := NW_at a1 a4 a8
  have e2 := NW_at a2 a5 a9
  obtain ⟨d, e3⟩ := Ev_co a3 m
  have e4 : p m = T m := by rw [hp m hm, a6 m hm]
  have e5 : ps m = U m := by rw [hps m hm, a7 m hm]
  refine ⟨- S m - d, - d, ?_, ?_⟩
  · rw [e4, show (- S m - d + - d) = - F m by omega, Int.mul_neg, e1]; omega
  · rw [e5, show (- S m - d - - d) = - S m by omega, Int.mul_neg, e2]; omega
