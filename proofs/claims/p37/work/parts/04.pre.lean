/-! pure control: guards, binds, names, loops -/
def gd {α : Type} (b : Bool) (x : Option α) : Option α := if b = true then x else none
theorem gd_some {α : Type} {b : Bool} {x : Option α} {r : α} (h : gd b x = some r) : b = true ∧ x = some r := by
  unfold gd at h
  by_cases hb : b = true
  · rw [if_pos hb] at h; exact ⟨hb, h⟩
  · rw [if_neg hb] at h; cases h
theorem gd_t {α : Type} {b : Bool} {x : Option α} (h : b = true) : gd b x = x := if_pos h
def bd {α β : Type} (x : Option α) (k : α → Option β) : Option β := x.bind k
theorem bd_some {α β : Type} {x : Option α} {k : α → Option β} {r : β} (h : bd x k = some r) : ∃ a, x = some a ∧ k a = some r := Option.bind_eq_some_iff.mp h
theorem bd_t {α β : Type} {x : Option α} {k : α → Option β} {a : α} (h : x = some a) : bd x k = k a := by rw [h]; rfl
def nm {α β : Type} (x : α) (k : α → Option β) : Option β := k x
theorem nm_some {α β : Type} {x : α} {k : α → Option β} {r : β} (h : nm x k = some r) : ∀ y, y = x → k y = some r := fun _ e => by rw [e]; exact h
theorem if_t {α : Type} {c : Prop} [Decidable c] {a b r : α} (h : (if c then a else b) = r) (hc : c) : a = r := by rw [if_pos hc] at h; exact h
theorem if_f {α : Type} {c : Prop} [Decidable c] {a b r : α} (h : (if c then a else b) = r) (hc : ¬ c) : b = r := by rw [if_neg hc] at h; exact h
def inb (i : Int32) (n : Nat) : Bool := decide (0 ≤ i.toInt ∧ i.toInt < n)
theorem inb_in {i : Int32} {n : Nat} (h : inb i n = true) : vp_in i n := vp_in_iff.mpr (of_decide_eq_true h)
def nz (i : Int32) : Bool := decide (¬ i = 0)
theorem nz_ne {i : Int32} (h : nz i = true) : ¬ i = 0 := of_decide_eq_true h
def nzl (i : Int64) : Bool := decide (¬ i = 0)
theorem nzl_ne {i : Int64} (h : nzl i = true) : ¬ i = 0 := of_decide_eq_true h
def bq (i : Int32) : Bool := decide (i = 0 ∨ i = 1)
theorem bq_nar {i : Int32} (h : bq i = true) : narrow .boolean (.int i) = .int i := by
  rcases of_decide_eq_true h with rfl | rfl <;> decide
def it {σ ρ : Type} (b : σ → Option (σ ⊕ ρ)) : Nat → σ → Option ρ
  | 0, _ => none
  | n + 1, s => match b s with
    | none => none
    | some (.inl t) => it b n t
    | some (.inr r) => some r
def itK {σ ρ : Type} (b : σ → Option (σ ⊕ ρ)) (n : Nat) (r : ρ) : σ ⊕ ρ → Prop
  | .inl t => it b n t = some r
  | .inr r' => r' = r
theorem it_zero {σ ρ : Type} {b : σ → Option (σ ⊕ ρ)} {s : σ} {r : ρ} (h : it b 0 s = some r) : False := by cases h
theorem it_succ {σ ρ : Type} {b : σ → Option (σ ⊕ ρ)} {n : Nat} {s : σ} {r : ρ} (h : it b (n + 1) s = some r) : ∃ x, b s = some x ∧ itK b n r x := by
  unfold it at h
  cases hb : b s with
  | none => rw [hb] at h; cases h
  | some x =>
    rw [hb] at h
    cases x with
    | inl t => exact ⟨_, rfl, h⟩
    | inr r' => exact ⟨_, rfl, Option.some.inj h⟩
theorem it_inl {σ ρ : Type} {b : σ → Option (σ ⊕ ρ)} {n : Nat} {s t : σ} (h : b s = some (.inl t)) : it b (n + 1) s = it b n t := by
  show (match b s with | none => none | some (.inl t) => it b n t | some (.inr r) => some r) = _
  rw [h]
theorem it_inr {σ ρ : Type} {b : σ → Option (σ ⊕ ρ)} {n : Nat} {s : σ} {r : ρ} (h : b s = some (.inr r)) : it b (n + 1) s = some r := by
  show (match b s with | none => none | some (.inl t) => it b n t | some (.inr r) => some r) = _
  rw [h]
theorem it_mono {σ ρ : Type} {b : σ → Option (σ ⊕ ρ)} {r : ρ} (k : Nat) : ∀ (n : Nat) (s : σ), it b n s = some r → it b (n + k) s = some r := by
  intro n
  induction n with
  | zero => intro s h; exact (it_zero h).elim
  | succ n ih =>
    intro s h
    obtain ⟨x, hb, hX⟩ := it_succ h
    rw [Nat.succ_add]
    cases x with
    | inl t => rw [it_inl hb]; exact ih t hX
    | inr r' => rw [it_inr hb]; exact congrArg some hX
noncomputable def wh {σ ρ : Type} (b : σ → Option (σ ⊕ ρ)) (s : σ) : Option ρ := @dite _ (∃ r, ∃ n, it b n s = some r) (Classical.propDecidable _) (fun h => some h.choose) (fun _ => none)
theorem wh_some {σ ρ : Type} {b : σ → Option (σ ⊕ ρ)} {s : σ} {r : ρ} (h : wh b s = some r) : ∃ n, it b n s = some r := by
  unfold wh at h
  by_cases hc : ∃ r, ∃ n, it b n s = some r
  · rw [dif_pos hc] at h
    have := hc.choose_spec
    rw [Option.some.inj h] at this
    exact this
  · rw [dif_neg hc] at h; cases h
theorem wh_of {σ ρ : Type} {b : σ → Option (σ ⊕ ρ)} {s : σ} {r : ρ} {n : Nat} (h : it b n s = some r) : wh b s = some r := by
  unfold wh
  have hc : ∃ r, ∃ n, it b n s = some r := ⟨r, n, h⟩
  rw [dif_pos hc]
  obtain ⟨n2, h2⟩ := hc.choose_spec
  have a := it_mono n2 n s h
  have c := it_mono n n2 s h2
  rw [Nat.add_comm n2 n] at c
  rw [a] at c
  exact c.symm
theorem wh_inl {σ ρ : Type} {b : σ → Option (σ ⊕ ρ)} {s t : σ} {r : ρ} (h : b s = some (.inl t)) (h2 : wh b t = some r) : wh b s = some r := by
  obtain ⟨n, hn⟩ := wh_some h2
  exact wh_of (n := n + 1) (by rw [it_inl h]; exact hn)
theorem wh_inr {σ ρ : Type} {b : σ → Option (σ ⊕ ρ)} {s : σ} {r : ρ} (h : b s = some (.inr r)) : wh b s = some r := wh_of (n := 1) (it_inr h)
/-- a counted loop, from the i-th state on to the n-th, where it ends -/
theorem wh_cnt {σ ρ : Type} {b : σ → Option (σ ⊕ ρ)} (S : Nat → σ) (n : Nat) {r : ρ} (hs : ∀ i, i < n → b (S i) = some (.inl (S (i + 1)))) (he : b (S n) = some (.inr r)) : ∀ i, i ≤ n → wh b (S i) = some r := by
  have : ∀ k i, i + k = n → wh b (S i) = some r := by
    intro k
    induction k with
    | zero => intro i hi; rw [show i = n by omega]; exact wh_inr he
    | succ k ih => intro i hi; exact wh_inl (hs i (by omega)) (ih (i + 1) (by omega))
  intro i hi
  exact this (n - i) i (by omega)
def ex2 {α β γ : Type} (r : α ⊕ β) (k0 : α → Option γ) (k1 : β → Option γ) : Option γ := match r with
  | .inl a => k0 a
  | .inr b => k1 b
theorem ex2_0 {α β γ : Type} {r : α ⊕ β} {k0 : α → Option γ} {k1 : β → Option γ} {x : γ} {a : α} (h : ex2 r k0 k1 = some x) (e : r = .inl a) : k0 a = some x := by rw [e] at h; exact h
theorem ex2_1 {α β γ : Type} {r : α ⊕ β} {k0 : α → Option γ} {k1 : β → Option γ} {x : γ} {b : β} (h : ex2 r k0 k1 = some x) (e : r = .inr b) : k1 b = some x := by rw [e] at h; exact h
def ex3 {α β γ δ : Type} (r : α ⊕ (β ⊕ γ)) (k0 : α → Option δ) (k1 : β → Option δ) (k2 : γ → Option δ) : Option δ := match r with
  | .inl a => k0 a
  | .inr (.inl b) => k1 b
  | .inr (.inr c) => k2 c
theorem ex3_0 {α β γ δ : Type} {r : α ⊕ (β ⊕ γ)} {k0 : α → Option δ} {k1 : β → Option δ} {k2 : γ → Option δ} {x : δ} {a : α} (h : ex3 r k0 k1 k2 = some x) (e : r = .inl a) : k0 a = some x := by rw [e] at h; exact h
theorem ex3_1 {α β γ δ : Type} {r : α ⊕ (β ⊕ γ)} {k0 : α → Option δ} {k1 : β → Option δ} {k2 : γ → Option δ} {x : δ} {b : β} (h : ex3 r k0 k1 k2 = some x) (e : r = .inr (.inl b)) : k1 b = some x := by rw [e] at h; exact h
theorem ex3_2 {α β γ δ : Type} {r : α ⊕ (β ⊕ γ)} {k0 : α → Option δ} {k1 : β → Option δ} {k2 : γ → Option δ} {x : δ} {c : γ} (h : ex3 r k0 k1 k2 = some x) (e : r = .inr (.inr c)) : k2 c = some x := by rw [e] at h; exact h
theorem ts_out3 {x : Int32} (h0 : ¬ x = nI 0) (h1 : ¬ x = nI 1) (h2 : ¬ x = nI 2) : x.toInt < 0 ∨ 2 < x.toInt := by
  have a : x.toInt ≠ 0 := fun h => h0 (Int32.toInt_inj.mp (h.trans (by decide)))
  have b : x.toInt ≠ 1 := fun h => h1 (Int32.toInt_inj.mp (h.trans (by decide)))
  have c : x.toInt ≠ 2 := fun h => h2 (Int32.toInt_inj.mp (h.trans (by decide)))
  omega
