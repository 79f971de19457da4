/-! searching words in their order -/
def upn (w : Nat → Nat) (p j : Nat) : Nat → Nat := fun i => if i = p then j else w i
def lp (f : Nat → Nat → Nat ⊕ (Nat → Nat)) : Nat → Nat → Nat → Nat ⊕ (Nat → Nat)
  | 0, _, k => .inl k
  | n + 1, j, k => match f j k with
    | .inl k' => lp f n (j + 1) k'
    | .inr w => .inr w
noncomputable def srch (G : (Nat → Nat) → Prop) (M L : Nat) : Nat → (Nat → Nat) → Nat → Nat ⊕ (Nat → Nat)
  | 0, w, k => @ite _ (G w) (Classical.propDecidable _) (if k = 0 then .inr w else .inl (k - 1)) (.inl k)
  | d + 1, w, k => lp (fun j k => srch G M L d (upn w (L - 1 - d) j) k) M 0 k
theorem lp_inl {f : Nat → Nat → Nat ⊕ (Nat → Nat)} {n j k k' : Nat} (h : f j k = .inl k') : lp f (n + 1) j k = lp f n (j + 1) k' := by
  show (match f j k with | .inl k' => lp f n (j + 1) k' | .inr w => .inr w) = _
  rw [h]
theorem lp_inr {f : Nat → Nat → Nat ⊕ (Nat → Nat)} {n j k : Nat} {w : Nat → Nat} (h : f j k = .inr w) : lp f (n + 1) j k = .inr w := by
  show (match f j k with | .inl k' => lp f n (j + 1) k' | .inr w => .inr w) = _
  rw [h]
theorem lp_skip {f : Nat → Nat → Nat ⊕ (Nat → Nat)} {k : Nat} : ∀ m n j, (∀ i, j ≤ i → i < j + m → f i k = .inl k) → lp f (m + n) j k = lp f n (j + m) k := by
  intro m
  induction m with
  | zero => intro n j _; rw [Nat.zero_add, Nat.add_zero]
  | succ m ih =>
    intro n j h
    rw [show m + 1 + n = (m + n) + 1 by omega, lp_inl (h j (by omega) (by omega)), ih n (j + 1) (fun i h1 h2 => h i (by omega) (by omega)), show j + 1 + m = j + (m + 1) by omega]
theorem srch_none {G : (Nat → Nat) → Prop} {M L : Nat} : ∀ d, d ≤ L → ∀ w, (∀ w', (∀ i, i < L - d → w' i = w i) → ¬ G w') → ∀ k, srch G M L d w k = .inl k := by
  intro d
  induction d with
  | zero =>
    intro _ w h k
    exact if_neg (h w (fun _ _ => rfl))
  | succ d ih =>
    intro hd w h k
    show lp (fun j k => srch G M L d (upn w (L - 1 - d) j) k) M 0 k = .inl k
    have := lp_skip (f := fun j k => srch G M L d (upn w (L - 1 - d) j) k) (k := k) M 0 0 (fun j _ _ => ih (by omega) _ (fun w' hw' => h w' (fun i hi => by
      rw [hw' i (by omega)]
      unfold upn
      rw [if_neg (by omega)])) k)
    rw [Nat.add_zero] at this
    exact this
/-- closed, and less than every rotation -/
def fstW (x y : Nat → Nat) (L : Nat) (w : Nat → Nat) : Prop := nxt x y (w (L - 1)) (w 0) ∧ ∀ r, 1 ≤ r → r < L → ∃ k, k < L ∧ (∀ i, i < k → w i = w ((i + r) % L)) ∧ w k < w ((k + r) % L)
def GW (x y : Nat → Nat) (L : Nat) (w : Nat → Nat) : Prop := (∀ i, i + 1 < L → nxt x y (w i) (w (i + 1))) ∧ fstW x y L w
/-- the beginning of a smallest rotation, and its period -/
def PreN (x y : Nat → Nat) (M pos per : Nat) (w : Nat → Nat) : Prop :=
  1 ≤ per ∧ per ≤ pos ∧ (∀ i, i < pos → w i < M) ∧ (∀ i, i + 1 < pos → nxt x y (w i) (w (i + 1))) ∧ (∀ i, per + i < pos → w (per + i) = w i) ∧
  ∀ r, 1 ≤ r → r ≤ pos → (∃ j, r + j < pos ∧ (∀ i, i < j → w (r + i) = w i) ∧ w j < w (r + j)) ∨ (per ≤ r ∧ ∀ i, r + i < pos → w (r + i) = w i)
theorem upn_lt {w : Nat → Nat} {p j i : Nat} (h : i < p) : upn w p j i = w i := by
  unfold upn
  rw [if_neg (by omega)]
theorem upn_at {w : Nat → Nat} {p j : Nat} : upn w p j p = j := by
  unfold upn
  rw [if_pos rfl]
theorem no_next {x y : Nat → Nat} {L pos j : Nat} {w : Nat → Nat} (h0 : 0 < pos) (hL : pos < L) (hn : ¬ nxt x y (w (pos - 1)) j) : ∀ w', (∀ i, i < pos + 1 → w' i = upn w pos j i) → ¬ GW x y L w' := by
  intro w' hw' hG
  have h1 := hG.1 (pos - 1) (by omega)
  rw [show pos - 1 + 1 = pos by omega, hw' pos (by omega), hw' (pos - 1) (by omega), upn_at, upn_lt (by omega)] at h1
  exact hn h1
theorem no_first {x y : Nat → Nat} {L pos j : Nat} {w : Nat → Nat} (h0 : 0 < pos) (hL : pos < L) (hj : j < w 0) : ∀ w', (∀ i, i < pos + 1 → w' i = upn w pos j i) → ¬ GW x y L w' := by
  intro w' hw' hG
  obtain ⟨k, k1, k2, k3⟩ := hG.2.2 pos (by omega) hL
  have e1 : w' pos = j := by rw [hw' pos (by omega), upn_at]
  have e2 : w' 0 = w 0 := by rw [hw' 0 (by omega), upn_lt h0]
  have e3 : (0 + pos) % L = pos := by rw [Nat.zero_add, Nat.mod_eq_of_lt hL]
  by_cases hk : k = 0
  · subst hk
    rw [e3] at k3
    omega
  · have := k2 0 (by omega)
    rw [e3] at this
    omega
theorem no_small {x y : Nat → Nat} {M L pos per j : Nat} {w : Nat → Nat} (hP : PreN x y M pos per w) (hL : pos < L) (hj : j < w (pos - per)) : ∀ w', (∀ i, i < pos + 1 → w' i = upn w pos j i) → ¬ GW x y L w' := by
  intro w' hw' hG
  obtain ⟨p1, p2, -, -, p3, -⟩ := hP
  obtain ⟨k, k1, k2, k3⟩ := hG.2.2 per p1 (by omega)
  have e1 : w' pos = j := by rw [hw' pos (by omega), upn_at]
  have e2 : ∀ i, i < pos → w' i = w i := fun i hi => by rw [hw' i (by omega), upn_lt hi]
  have e3 : ∀ i, i + per < pos → w' ((i + per) % L) = w' i := fun i hi => by
    rw [Nat.mod_eq_of_lt (by omega), e2 _ hi, e2 _ (by omega), Nat.add_comm, p3 i (by omega)]
  have e4 : w' ((pos - per + per) % L) = j := by rw [show pos - per + per = pos by omega, Nat.mod_eq_of_lt hL, e1]
  have e5 := e2 (pos - per) (by omega)
  by_cases h1 : k < pos - per
  · have := e3 k (by omega)
    omega
  · by_cases h2 : k = pos - per
    · rw [h2, e4] at k3
      omega
    · have := k2 (pos - per) (by omega)
      rw [e4] at this
      omega
theorem pre_ge {x y : Nat → Nat} {M pos per r : Nat} {w : Nat → Nat} (hP : PreN x y M pos per w) (hr : per ≤ r) (hr2 : r ≤ pos) (he : ∀ i, r + i < pos → w (r + i) = w i) : w (pos - r) ≤ w (pos - per) := by
  obtain ⟨p1, p2, -, -, p3, p4⟩ := hP
  by_cases h : r = per
  · rw [h]; exact Nat.le_refl _
  · have hsh : ∀ i, r + i < pos → w (r - per + i) = w i := fun i hi => by
      rw [← p3 (r - per + i) (by omega), show per + (r - per + i) = r + i by omega]
      exact he i hi
    rcases p4 (r - per) (by omega) (by omega) with ⟨j, j1, j2, j3⟩ | ⟨-, j2⟩
    · by_cases hj : j < pos - r
      · have := hsh j (by omega)
        omega
      · by_cases hj2 : j = pos - r
        · rw [hj2, show r - per + (pos - r) = pos - per by omega] at j3
          omega
        · have := j2 (pos - r) (by omega)
          rw [show r - per + (pos - r) = pos - per by omega] at this
          omega
    · have := j2 (pos - r) (by omega)
      rw [show r - per + (pos - r) = pos - per by omega] at this
      omega
theorem pre_step {x y : Nat → Nat} {M pos per j : Nat} {w : Nat → Nat} (hP : PreN x y M pos per w) (hj : w (pos - per) ≤ j) (hn : nxt x y (w (pos - 1)) j) (hM : j < M) : PreN x y M (pos + 1) (if j = w (pos - per) then per else pos + 1) (upn w pos j) := by
  have hge := fun r => pre_ge (r := r) hP
  obtain ⟨p1, p2, p5, p6, p3, p4⟩ := hP
  have u1 : upn w pos j pos = j := upn_at
  have u2 : ∀ i, i < pos → upn w pos j i = w i := fun i hi => upn_lt hi
  have hlt : ∀ i, i < pos + 1 → upn w pos j i < M := fun i hi => by
    by_cases h : i = pos
    · rw [h, u1]; exact hM
    · rw [u2 i (by omega)]; exact p5 i (by omega)
  have hnx : ∀ i, i + 1 < pos + 1 → nxt x y (upn w pos j i) (upn w pos j (i + 1)) := fun i hi => by
    by_cases h : i + 1 = pos
    · rw [h, u1, u2 i (by omega), show i = pos - 1 by omega]; exact hn
    · rw [u2 i (by omega), u2 (i + 1) (by omega)]; exact p6 i (by omega)
  by_cases he : j = w (pos - per)
  · rw [if_pos he]
    refine ⟨p1, by omega, hlt, hnx, fun i hi => ?_, fun r r1 r2 => ?_⟩
    · by_cases h : per + i = pos
      · rw [h, u1, u2 i (by omega), he, show pos - per = i by omega]
      · rw [u2 (per + i) (by omega), u2 i (by omega)]; exact p3 i (by omega)
    · by_cases hr : r ≤ pos
      · rcases p4 r r1 hr with ⟨l, l1, l2, l3⟩ | ⟨l1, l2⟩
        · refine Or.inl ⟨l, by omega, fun i hi => ?_, ?_⟩
          · rw [u2 (r + i) (by omega), u2 i (by omega)]; exact l2 i hi
          · rw [u2 (r + l) (by omega), u2 l (by omega)]; exact l3
        · have hg := hge r l1 hr l2
          by_cases hq : w (pos - r) < j
          · refine Or.inl ⟨pos - r, by omega, fun i hi => ?_, ?_⟩
            · rw [u2 (r + i) (by omega), u2 i (by omega)]; exact l2 i (by omega)
            · rw [show r + (pos - r) = pos by omega, u1, u2 (pos - r) (by omega)]; exact hq
          · refine Or.inr ⟨l1, fun i hi => ?_⟩
            by_cases h : r + i = pos
            · rw [h, u1, u2 i (by omega), show i = pos - r by omega]; omega
            · rw [u2 (r + i) (by omega), u2 i (by omega)]; exact l2 i (by omega)
      · exact Or.inr ⟨by omega, fun i hi => absurd hi (by omega)⟩
  · rw [if_neg he]
    refine ⟨by omega, by omega, hlt, hnx, fun i hi => absurd hi (by omega), fun r r1 r2 => ?_⟩
    by_cases hr : r ≤ pos
    · rcases p4 r r1 hr with ⟨l, l1, l2, l3⟩ | ⟨l1, l2⟩
      · refine Or.inl ⟨l, by omega, fun i hi => ?_, ?_⟩
        · rw [u2 (r + i) (by omega), u2 i (by omega)]; exact l2 i hi
        · rw [u2 (r + l) (by omega), u2 l (by omega)]; exact l3
      · have hg := hge r l1 hr l2
        refine Or.inl ⟨pos - r, by omega, fun i hi => ?_, ?_⟩
        · rw [u2 (r + i) (by omega), u2 i (by omega)]; exact l2 i (by omega)
        · rw [show r + (pos - r) = pos by omega, u1, u2 (pos - r) (by omega)]; omega
    · exact Or.inr ⟨by omega, fun i hi => absurd hi (by omega)⟩
theorem pre_one {x y : Nat → Nat} {M j : Nat} {w : Nat → Nat} (hM : j < M) : PreN x y M 1 1 (upn w 0 j) := by
  refine ⟨Nat.le_refl 1, Nat.le_refl 1, fun i hi => ?_, fun i hi => absurd hi (by omega), fun i hi => absurd hi (by omega), fun r r1 r2 => Or.inr ⟨r1, fun i hi => absurd hi (by omega)⟩⟩
  rw [show i = 0 by omega, upn_at]; exact hM
theorem per_mod {x y : Nat → Nat} {M pos per : Nat} {w : Nat → Nat} (hP : PreN x y M pos per w) : ∀ i, i < pos → w i = w (i % per) := by
  intro i
  induction i using Nat.strongRecOn with
  | _ i ih =>
    intro hi
    by_cases h : i < per
    · rw [Nat.mod_eq_of_lt h]
    · have h1 := hP.2.2.2.2.1 (i - per) (by omega)
      rw [show per + (i - per) = i by omega] at h1
      rw [h1, ih (i - per) (by have := hP.1; omega) (by omega), Nat.mod_eq_sub_mod (show i ≥ per by omega)]
theorem pre_leaf {x y : Nat → Nat} {M L per : Nat} {w : Nat → Nat} (hP : PreN x y M L per w) : GW x y L w ↔ per = L ∧ nxt x y (w (L - 1)) (w 0) := by
  have hm := per_mod hP
  obtain ⟨p1, p2, p5, p6, p3, p4⟩ := hP
  constructor
  · intro hG
    refine ⟨?_, hG.2.1⟩
    by_cases h : per = L
    · exact h
    · exfalso
      by_cases hs : L % per = 0
      · obtain ⟨k, k1, k2, k3⟩ := hG.2.2 per p1 (by omega)
        by_cases hk : k + per < L
        · rw [Nat.mod_eq_of_lt hk, Nat.add_comm, p3 k (by omega)] at k3
          omega
        · rw [Nat.mod_eq_sub_mod (show k + per ≥ L by omega), Nat.mod_eq_of_lt (show k + per - L < L by omega), hm k k1, hm (k + per - L) (by omega)] at k3
          have e : k % per = (k + per - L) % per := by
            have e1 : L % per + 0 = 0 := by omega
            obtain ⟨q, hq⟩ : ∃ q, L = per * q := ⟨L / per, by have := Nat.div_add_mod L per; omega⟩
            have e2 : k + per = (k + per - L) + per * q := by omega
            have e3 : (k + per) % per = k % per := Nat.add_mod_right k per
            rw [← e3, e2, Nat.add_mul_mod_self_left]
            congr 1
            omega
          rw [e] at k3
          omega
      · have hsl : L % per < per := Nat.mod_lt _ (by omega)
        obtain ⟨s, hs2⟩ : ∃ s, L % per = s := ⟨_, rfl⟩
        rw [hs2] at hs hsl
        obtain ⟨q, hq⟩ : ∃ q, L - s = per * q := ⟨L / per, by have := Nat.div_add_mod L per; omega⟩
        obtain ⟨j, j1, j2, j3⟩ : ∃ j, s + j < L ∧ (∀ i, i < j → w (s + i) = w i) ∧ w j < w (s + j) := by
          rcases p4 s (by omega) (by omega) with h1 | h1
          · exact h1
          · exact absurd h1.1 (by omega)
        obtain ⟨k, k1, k2, k3⟩ := hG.2.2 (L - s) (by omega) (by omega)
        have r1 : ∀ i, i < s → w ((i + (L - s)) % L) = w i := fun i hi => by
          rw [Nat.mod_eq_of_lt (by omega), hm _ (by omega), hq, Nat.add_mul_mod_self_left, Nat.mod_eq_of_lt (by omega)]
        have r2 : ∀ i, s ≤ i → i < L → w ((i + (L - s)) % L) = w (i - s) := fun i hi hi2 => by
          rw [Nat.mod_eq_sub_mod (by omega), Nat.mod_eq_of_lt (by omega), show i + (L - s) - L = i - s by omega]
        by_cases h1 : k < s
        · rw [r1 k h1] at k3; omega
        · rw [r2 k (by omega) k1] at k3
          by_cases h2 : k < s + j
          · have := j2 (k - s) (by omega)
            rw [show s + (k - s) = k by omega] at this
            omega
          · by_cases h3 : k = s + j
            · rw [h3, show s + j - s = j by omega] at k3
              omega
            · have := k2 (s + j) (by omega)
              rw [r2 (s + j) (by omega) j1, show s + j - s = j by omega] at this
              omega
  · rintro ⟨h1, h2⟩
    refine ⟨p6, h2, fun r r1 r2 => ?_⟩
    rcases p4 r r1 (by omega) with ⟨j, j1, j2, j3⟩ | ⟨h3, -⟩
    · refine ⟨j, by omega, fun i hi => ?_, ?_⟩
      · rw [Nat.mod_eq_of_lt (by omega), Nat.add_comm, j2 i hi]
      · rw [Nat.mod_eq_of_lt (by omega), Nat.add_comm]; exact j3
    · omega
