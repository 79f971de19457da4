/-- Newton's rule between a series and its sums -/
def NW (c T : PS) : Prop := letI := psR; pD c = - T * c
/-- equal but for an even part -/
def Ev (a b : PS) : Prop := ∃ h : PS, letI := psR; a = b + 2 * h
theorem Ev_mul {a b a' b' : PS} (h : Ev a b) (h' : Ev a' b') : Ev (cv a a') (cv b b') := by
  letI := psR
  obtain ⟨x, hx⟩ := h
  obtain ⟨x', hx'⟩ := h'
  have hx : a = b + 2 * x := hx
  have hx' : a' = b' + 2 * x' := hx'
  refine ⟨x * b' + b * x' + 2 * x * x', ?_⟩
  show a * a' = b * b' + 2 * (x * b' + b * x' + 2 * x * x')
  rw [hx, hx']
  grind
def zZ (z : Int) (k : Nat) (ε : Int) : PS := fun n => z * pZ k ε n
theorem facz {k : Nat} (hk : 1 ≤ k) (hev1 : Ev (pq k 1) (pq k (-1))) (hev2 : Ev (pg k 1) (pg k (-1))) (w : Nat) :
    (∃ X Y : PS, Ev X Y ∧ X 0 = 1 ∧ Y 0 = 1 ∧ (∀ c T, NW c T → NW (cv c X) (fun n => T n - (w : Int) * pZ k 1 n)) ∧ (∀ c T, NW c T → NW (cv c Y) (fun n => T n - (w : Int) * pZ k (-1) n))) ∧
    (∃ X Y : PS, Ev X Y ∧ X 0 = 1 ∧ Y 0 = 1 ∧ (∀ c T, NW c T → NW (cv c X) (fun n => T n + (w : Int) * pZ k 1 n)) ∧ (∀ c T, NW c T → NW (cv c Y) (fun n => T n + (w : Int) * pZ k (-1) n))) := by
  letI := psR
  induction w with
  | zero =>
    have h1 : ∀ c : PS, cv c (pc 1) = c := fun c => PS.ext' (fun n => by rw [cv_comm, cv_c, Int.one_mul])
    have h2 : ∀ (T : PS) ε, (fun n => T n - ((0 : Nat) : Int) * pZ k ε n) = T := fun T ε => PS.ext' (fun n => by show T n - ((0 : Nat) : Int) * pZ k ε n = T n; grind)
    have h3 : ∀ (T : PS) ε, (fun n => T n + ((0 : Nat) : Int) * pZ k ε n) = T := fun T ε => PS.ext' (fun n => by show T n + ((0 : Nat) : Int) * pZ k ε n = T n; grind)
    have h4 : Ev (pc 1) (pc 1) := ⟨0, by show (pc 1 : PS) = pc 1 + 2 * 0; grind⟩
    exact ⟨⟨pc 1, pc 1, h4, rfl, rfl, fun c T h => by rw [h1, h2]; exact h, fun c T h => by rw [h1, h2]; exact h⟩, ⟨pc 1, pc 1, h4, rfl, rfl, fun c T h => by rw [h1, h3]; exact h, fun c T h => by rw [h1, h3]; exact h⟩⟩
  | succ w ih =>
    obtain ⟨⟨X, Y, a1, a2, a3, a4, a5⟩, ⟨X', Y', b1, b2, b3, b4, b5⟩⟩ := ih
    have g0 : ∀ ε, pg k ε 0 = 1 := fun ε => by
      show (if 0 % k = 0 then ε ^ (0 / k) else 0) = 1
      rw [Nat.zero_mod, if_pos rfl, Nat.zero_div, Int.pow_zero]
    have m0 : ∀ a b : PS, a 0 = 1 → b 0 = 1 → cv a b 0 = 1 := fun a b ha hb => by
      show 0 + a 0 * b 0 = 1
      rw [ha, hb]; rfl
    refine ⟨⟨cv X (pg k 1), cv Y (pg k (-1)), Ev_mul a1 hev2, m0 _ _ a2 (g0 1), m0 _ _ a3 (g0 (-1)), fun c T h => ?_, fun c T h => ?_⟩, ⟨cv X' (pq k 1), cv Y' (pq k (-1)), Ev_mul b1 hev1, m0 _ _ b2 rfl, m0 _ _ b3 rfl, fun c T h => ?_, fun c T h => ?_⟩⟩
    · have e := nw_dn hk 1 (a4 c T h)
      have e1 : cv c (cv X (pg k 1)) = cv (cv c X) (pg k 1) := PS.ext' (fun n => (cv_assoc _ _ _ n).symm)
      have e2 : (fun n => T n - ((w + 1 : Nat) : Int) * pZ k 1 n) = (fun n => (T n - (w : Int) * pZ k 1 n) - pZ k 1 n) := PS.ext' (fun n => by show T n - ((w + 1 : Nat) : Int) * pZ k 1 n = (T n - (w : Int) * pZ k 1 n) - pZ k 1 n; grind)
      rw [e1, e2]; exact e
    · have e := nw_dn hk (-1) (a5 c T h)
      have e1 : cv c (cv Y (pg k (-1))) = cv (cv c Y) (pg k (-1)) := PS.ext' (fun n => (cv_assoc _ _ _ n).symm)
      have e2 : (fun n => T n - ((w + 1 : Nat) : Int) * pZ k (-1) n) = (fun n => (T n - (w : Int) * pZ k (-1) n) - pZ k (-1) n) := PS.ext' (fun n => by show T n - ((w + 1 : Nat) : Int) * pZ k (-1) n = (T n - (w : Int) * pZ k (-1) n) - pZ k (-1) n; grind)
      rw [e1, e2]; exact e
    · have e := nw_up hk 1 (b4 c T h)
      have e1 : cv c (cv X' (pq k 1)) = cv (cv c X') (pq k 1) := PS.ext' (fun n => (cv_assoc _ _ _ n).symm)
      have e2 : (fun n => T n + ((w + 1 : Nat) : Int) * pZ k 1 n) = (fun n => (T n + (w : Int) * pZ k 1 n) + pZ k 1 n) := PS.ext' (fun n => by show T n + ((w + 1 : Nat) : Int) * pZ k 1 n = (T n + (w : Int) * pZ k 1 n) + pZ k 1 n; grind)
      rw [e1, e2]; exact e
    · have e := nw_up hk (-1) (b5 c T h)
      have e1 : cv c (cv Y' (pq k (-1))) = cv (cv c Y') (pq k (-1)) := PS.ext' (fun n => (cv_assoc _ _ _ n).symm)
      have e2 : (fun n => T n + ((w + 1 : Nat) : Int) * pZ k (-1) n) = (fun n => (T n + (w : Int) * pZ k (-1) n) + pZ k (-1) n) := PS.ext' (fun n => by show T n + ((w + 1 : Nat) : Int) * pZ k (-1) n = (T n + (w : Int) * pZ k (-1) n) + pZ k (-1) n; grind)
      rw [e1, e2]; exact e
