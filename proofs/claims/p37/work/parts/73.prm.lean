/-- what the divisors before m take away at n -/
def tk (p : Nat → Int) (m n : Nat) : Int := sm m (fun d => if d = 0 then 0 else if n % d = 0 then p d else 0)
def tks (p ps : Nat → Int) (m n : Nat) : Int := sm m (fun d => if d = 0 then 0 else if n % d = 0 then (if n / d % 2 = 0 then p d else ps d) else 0)
theorem NW_at {c T : PS} (h : NW c T) {m : Nat} (hc : c 0 = 1) (hT : ∀ i, i < m → T i = 0) : (m : Int) * c m = - T m := by
  have h1 := nw_co h m
  rw [h1]
  unfold cv
  rw [sm_one (k := m) (by omega) (fun i hi hne => by rw [hT i (by omega), Int.zero_mul]), Nat.sub_self, hc, Int.mul_one]
theorem facZ {k : Nat} (hk : 1 ≤ k) (z : Int) : ∃ X Y : PS, Ev X Y ∧ X 0 = 1 ∧ Y 0 = 1 ∧ (∀ c T, NW c T → NW (cv c X) (fun n => T n - z * pZ k 1 n)) ∧ (∀ c T, NW c T → NW (cv c Y) (fun n => T n - z * pZ k (-1) n)) := by
  obtain ⟨⟨X, Y, a1, a2, a3, a4, a5⟩, ⟨X', Y', b1, b2, b3, b4, b5⟩⟩ := facz hk (hev1 k) (hev2 k) z.natAbs
  by_cases h : 0 ≤ z
  · have e : ((z.natAbs : Nat) : Int) = z := by omega
    rw [e] at a4 a5
    exact ⟨X, Y, a1, a2, a3, a4, a5⟩
  · have e : ((z.natAbs : Nat) : Int) = -z := by omega
    rw [e] at b4 b5
    have e2 : ∀ (T : PS) ε, (fun n => T n + -z * pZ k ε n) = (fun n => T n - z * pZ k ε n) := fun T ε => PS.ext' (fun n => by show T n + -z * pZ k ε n = T n - z * pZ k ε n; rw [Int.neg_mul]; omega)
    refine ⟨X', Y', b1, b2, b3, fun c T h => ?_, fun c T h => ?_⟩
    · rw [← e2]; exact b4 c T h
    · rw [← e2]; exact b5 c T h
theorem cv_10 {a b : PS} (ha : a 0 = 1) (hb : b 0 = 1) : cv a b 0 = 1 := by
  show 0 + a 0 * b 0 = 1
  rw [ha, hb]; rfl
/-- m divides the primitive closed walks, and 2 m their even and odd parts -/
theorem prm_main {t ts p ps : Nat → Int} {F0 S0 T0 U0 : PS} (hF : NW F0 T0) (hS : NW S0 U0) (hE : Ev F0 S0) (f0 : F0 0 = 1) (s0 : S0 0 = 1) (hT : T0 0 = 0 ∧ ∀ n, 1 ≤ n → T0 n = t n) (hU : U0 0 = 0 ∧ ∀ n, 1 ≤ n → U0 n = ts n) (hp : ∀ m, 1 ≤ m → p m = t m - tk p m m) (hps : ∀ m, 1 ≤ m → ps m = ts m - tks p ps m m) :
    ∀ m, 1 ≤ m → ∃ F S T U : PS, NW F T ∧ NW S U ∧ Ev F S ∧ F 0 = 1 ∧ S 0 = 1 ∧ (∀ n, 1 ≤ n → T n = t n - tk p m n) ∧ (∀ n, 1 ≤ n → U n = ts n - tks p ps m n) ∧ (∀ n, n < m → T n = 0) ∧ (∀ n, n < m → U n = 0) := by
  intro m hm
  induction m with
  | zero => exact absurd hm (by omega)
  | succ m ih =>
    by_cases h0 : m = 0
    · subst h0
      refine ⟨F0, S0, T0, U0, hF, hS, hE, f0, s0, fun n hn => ?_, fun n hn => ?_, fun n hn => ?_, fun n hn => ?_⟩
      · rw [hT.2 n hn]; show _ = t n - (0 + 0); omega
      · rw [hU.2 n hn]; show _ = ts n - (0 + 0); omega
      · rw [show n = 0 by omega]; exact hT.1
      · rw [show n = 0 by omega]; exact hU.1
    · obtain ⟨F, S, T, U, a1, a2, a3, a4, a5, a6, a7, a8, a9⟩ := ih (by omega)
      have e1 := NW_at a1 a4 a8
      have e2 := NW_at a2 a5 a9
      obtain ⟨d, e3⟩ := Ev_co a3 m
      have e4 : p m = T m := by rw [hp m (by omega), a6 m (by omega)]
      have e5 : ps m = U m := by rw [hps m (by omega), a7 m (by omega)]
      obtain ⟨X1, Y1, b1, b2, b3, b4, b5⟩ := facZ (k := m) (by omega) (- S m - d)
      obtain ⟨X2, Y2, c1, c2, c3, c4, c5⟩ := facZ (k := m) (by omega) (- d)
      have hX : Ev X1 X1 := Ev_of (fun n => ⟨0, by omega⟩)
      have q1 : ∀ n, pZ m 1 n = if n = 0 then 0 else if n % m = 0 then (m : Int) else 0 := fun n => by
        unfold pZ
        rw [Int.one_pow, Int.mul_one]
      have q2 : ∀ n, pZ m (-1) n = if n = 0 then 0 else if n % m = 0 then (if n / m % 2 = 0 then (m : Int) else - (m : Int)) else 0 := fun n => by
        unfold pZ
        rw [pow_m1]
        by_cases h : n / m % 2 = 0
        · rw [if_pos h, if_pos h, Int.mul_one]
        · rw [if_neg h, if_neg h]
          rw [show (m : Int) * -1 = - (m : Int) by omega]
      have k1 : ∀ n, T n - (- S m - d) * pZ m 1 n - (- d) * pZ m 1 n = T n + F m * pZ m 1 n := fun n => by
        rw [e3]; grind
      have k2 : ∀ n, U n - (- S m - d) * pZ m 1 n - (- d) * pZ m (-1) n = U n + (S m + d) * pZ m 1 n + d * pZ m (-1) n := fun n => by
        grind
      have j1 : F m * (m : Int) = - T m := by rw [Int.mul_comm]; exact e1
      have j2 : S m * (m : Int) = - U m := by rw [Int.mul_comm]; exact e2
      have j3 : (S m + d) * (m : Int) + d * (m : Int) = - T m := by rw [← j1, e3]; grind
      have j4 : (S m + d) * (m : Int) + d * (- (m : Int)) = - U m := by rw [← j2]; grind
      refine ⟨cv (cv F X1) X2, cv (cv S X1) Y2, _, _, c4 _ _ (b4 _ _ a1), c5 _ _ (b4 _ _ a2), Ev_mul (Ev_mul a3 hX) c1, cv_10 (cv_10 a4 b2) c2, cv_10 (cv_10 a5 b2) c3, fun n hn => ?_, fun n hn => ?_, fun n hn => ?_, fun n hn => ?_⟩
      · rw [k1 n, a6 n hn, q1, if_neg (show ¬ n = 0 by omega)]
        show _ = t n - (tk p m n + (if m = 0 then 0 else if n % m = 0 then p m else 0))
        rw [if_neg h0]
        by_cases h : n % m = 0
        · rw [if_pos h, if_pos h, j1, e4]; omega
        · rw [if_neg h, if_neg h, Int.mul_zero]; omega
      · rw [k2 n, a7 n hn, q1, q2, if_neg (show ¬ n = 0 by omega), if_neg (show ¬ n = 0 by omega)]
        show _ = ts n - (tks p ps m n + (if m = 0 then 0 else if n % m = 0 then (if n / m % 2 = 0 then p m else ps m) else 0))
        rw [if_neg h0]
        by_cases h : n % m = 0
        · rw [if_pos h, if_pos h, if_pos h]
          by_cases h2 : n / m % 2 = 0
          · rw [if_pos h2, if_pos h2, e4]; omega
          · rw [if_neg h2, if_neg h2, e5]; omega
        · rw [if_neg h, if_neg h, if_neg h, Int.mul_zero, Int.mul_zero]; omega
      · rw [k1 n, q1]
        by_cases h : n = m
        · rw [h, if_neg h0, Nat.mod_self, if_pos rfl, j1]; omega
        · rw [a8 n (by omega)]
          by_cases h3 : n = 0
          · rw [if_pos h3, Int.mul_zero]; rfl
          · rw [if_neg h3, Nat.mod_eq_of_lt (by omega), if_neg h3, Int.mul_zero]; rfl
      · rw [k2 n, q1, q2]
        by_cases h : n = m
        · rw [h, if_neg h0, if_neg h0, Nat.mod_self, if_pos rfl, if_pos rfl, Nat.div_self (by omega), if_neg (by decide)]; omega
        · rw [a9 n (by omega)]
          by_cases h3 : n = 0
          · rw [if_pos h3, if_pos h3, Int.mul_zero, Int.mul_zero]; rfl
          · rw [if_neg h3, if_neg h3, Nat.mod_eq_of_lt (by omega), if_neg h3, if_neg h3, Int.mul_zero, Int.mul_zero]; rfl
