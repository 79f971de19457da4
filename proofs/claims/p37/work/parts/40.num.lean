/-! small numbers in the models: rewriting rows; side conditions by omega -/
theorem nle {a b : Nat} (ha : a < 2 ^ 31) (hb : b < 2 ^ 31) : (nI a ≤ nI b) = (a ≤ b) := propext (nI_leI ha hb)
theorem nlt {a b : Nat} (ha : a < 2 ^ 31) (hb : b < 2 ^ 31) : (nI a < nI b) = (a < b) := propext (nI_ltI ha hb)
theorem neq {a b : Nat} (ha : a < 2 ^ 31) (hb : b < 2 ^ 31) : (nI a = nI b) = (a = b) := propext (nI_eq ha hb)
theorem neq0 {a : Nat} (ha : a < 2 ^ 31) : (nI a = 0) = (a = 0) := by rw [← nI_0]; exact neq ha (by omega)
theorem nlt0 {a : Nat} (ha : a < 2 ^ 31) : (nI a < 0) = False := eq_false (nI_pos ha)
theorem nle0 {a : Nat} (ha : a < 2 ^ 31) : (nI a ≤ 0) = (a = 0) := by rw [← nI_0, nle ha (by omega)]; exact propext ⟨fun h => by omega, fun h => by omega⟩
theorem zle {a : Nat} (ha : a < 2 ^ 31) : (0 ≤ nI a) = True := eq_true (nI_pos' ha)
theorem zlt {a : Nat} (ha : a < 2 ^ 31) : (0 < nI a) = (0 < a) := by rw [← nI_0, nlt (by omega) ha]
theorem ndiv {a d : Nat} (ha : a < 2 ^ 31) (h0 : 0 < d) (hd : d < 2 ^ 31) : nI a / nI d = nI (a / d) := pk_div ha h0 hd
theorem nsub {a b : Nat} (h : b ≤ a) : nI a - nI b = nI (a - b) := pk_sub h
theorem ncl {n : Nat} (h : n < 2 ^ 31) : (nI n).toNatClampNeg = n := nI_clamp h
theorem ginb {α : Type} {i n : Nat} {x : Option α} (h : i < n) (hn : n < 2 ^ 31) : gd (inb (nI i) n) x = x := gd_t (by
  unfold inb
  rw [nI_toInt (by omega)]
  exact decide_eq_true ⟨by omega, by omega⟩)
theorem gnz {α : Type} {i : Nat} {x : Option α} (h : 0 < i) (hn : i < 2 ^ 31) : gd (nz (nI i)) x = x := gd_t (by
  unfold nz
  exact decide_eq_true (nI_ne0 h hn))
theorem gltq {α : Type} {i n : Nat} {x : Option α} (h : i < n) : gd (ltq i n) x = x := gd_t (decide_eq_true h)
theorem gneq {α : Type} {i n : Nat} {x : Option α} (h : ¬ i = n) : gd (neq' i n) x = x := gd_t (decide_eq_true h)
theorem glenq {α : Type} {L : List Nat} {x : Option α} (h : L.length = 8) : gd (lenq L) x = x := gd_t (decide_eq_true h)
theorem gbq0 {α : Type} {x : Option α} : gd (bq (nI 0)) x = x := gd_t (by decide)
theorem gbq1 {α : Type} {x : Option α} : gd (bq (nI 1)) x = x := gd_t (by decide)
theorem gbqif {α : Type} {c : Prop} [Decidable c] {x : Option α} : gd (bq (if c then nI 1 else nI 0)) x = x := by
  by_cases h : c
  · rw [if_pos h]; exact gbq1
  · rw [if_neg h]; exact gbq0
theorem bd_s {α β : Type} {a : α} {k : α → Option β} : bd (some a) k = k a := rfl
theorem nm_s {α β : Type} {x : α} {k : α → Option β} : nm x k = k x := rfl
theorem nx_xor (a b : Nat) : nI a ^^^ nI b = nI (a ^^^ b) := by
  apply Int32.toBitVec_inj.1
  show BitVec.ofNat 32 a ^^^ BitVec.ofNat 32 b = BitVec.ofNat 32 (a ^^^ b)
  apply BitVec.eq_of_getLsbD_eq
  intro i hi
  simp [hi]
theorem xor1 (e : Nat) : e ^^^ 1 = if e % 2 = 0 then e + 1 else e - 1 := by
  apply Nat.eq_of_testBit_eq
  intro i
  rw [Nat.testBit_xor]
  cases i with
  | zero =>
    by_cases h : e % 2 = 0
    · have h2 : (e + 1) % 2 = 1 := by omega
      rw [if_pos h]; simp [Nat.testBit_zero, h, h2]
    · have h1 : e % 2 = 1 := by omega
      have h2 : (e - 1) % 2 = 0 := by omega
      rw [if_neg h]; simp [Nat.testBit_zero, h1, h2]
  | succ i =>
    by_cases h : e % 2 = 0
    · rw [if_pos h, Nat.testBit_succ, Nat.testBit_succ, Nat.testBit_succ, show (e + 1) / 2 = e / 2 by omega]; simp
    · rw [if_neg h, Nat.testBit_succ, Nat.testBit_succ, Nat.testBit_succ, show (e - 1) / 2 = e / 2 by omega]; simp
/-- 1 where a number is one of 0 .. n - 1 -/
def rng (p : Int32) (n : Nat) : Int32 := if 0 ≤ p.toInt ∧ p.toInt < n then nI 1 else nI 0
theorem rng_cases (p : Int32) {n : Nat} (hn : n < 2 ^ 31) : rng p n = nI 0 ∨ (rng p n = nI 1 ∧ ∃ j, j < n ∧ p = nI j) := by
  unfold rng
  by_cases h : 0 ≤ p.toInt ∧ p.toInt < n
  · rw [if_pos h]
    refine Or.inr ⟨rfl, p.toInt.toNat, by omega, ?_⟩
    apply Int32.toInt_inj.mp
    rw [nI_toInt (by omega)]
    omega
  · rw [if_neg h]; exact Or.inl rfl
theorem rng_in {j n : Nat} (h : j < n) (hn : n < 2 ^ 31) : rng (nI j) n = nI 1 := by
  unfold rng
  rw [nI_toInt (by omega), if_pos ⟨by omega, by omega⟩]
theorem rng_c {p : Int32} {n : Nat} (hn : n < 2 ^ 31) : (if p < 0 then some (nI 0) else if nI n ≤ p then some (nI 0) else some (nI 1)) = some (rng p n) := by
  unfold rng
  have e0 : (0 : Int32).toInt = 0 := by decide
  by_cases h1 : p < 0
  · rw [if_pos h1, if_neg (fun h => by rw [Int32.lt_iff_toInt_lt, e0] at h1; omega)]
  · rw [if_neg h1]
    rw [Int32.lt_iff_toInt_lt, e0] at h1
    by_cases h2 : nI n ≤ p
    · rw [if_pos h2]
      rw [Int32.le_iff_toInt_le, nI_toInt hn] at h2
      rw [if_neg (fun h => by omega)]
    · rw [if_neg h2]
      rw [Int32.le_iff_toInt_le, nI_toInt hn] at h2
      rw [if_pos ⟨by omega, by omega⟩]
theorem rng_m {p : Int32} {n : Nat} (hn : n < 2 ^ 30) : f_X9_in p (nI 0) (nI n - nI 1) = some (rng p n) := by
  unfold f_X9_in rng
  have e0 : (nI 0).toInt = 0 := by decide
  have e1 : (nI n - nI 1).toInt = (n : Int) - 1 := pk_sub_toInt hn (by omega)
  by_cases h1 : p < nI 0
  · rw [if_pos h1, if_neg (fun h => by rw [Int32.lt_iff_toInt_lt, e0] at h1; omega)]
  · rw [if_neg h1]
    rw [Int32.lt_iff_toInt_lt, e0] at h1
    by_cases h2 : nI n - nI 1 < p
    · rw [if_pos h2]
      rw [Int32.lt_iff_toInt_lt, e1] at h2
      rw [if_neg (fun h => by omega)]
    · rw [if_neg h2]
      rw [Int32.lt_iff_toInt_lt, e1] at h2
      rw [if_pos ⟨by omega, by omega⟩]
/-! the graph in numbers -/
def GA (v e : Int32) (f s n : Nat → Int32) (now : Nat → Int32) (o : Nat) (a E : Nat) (x y : Nat → Nat) : Prop := 1 ≤ a ∧ a ≤ 6 ∧ E ≤ 9 ∧ v = nI a ∧ e = nI E ∧ now o = nI a ∧ now (o + 1) = nI E ∧ ∀ k, k < E → x k < a ∧ y k < a ∧ x k ≠ y k ∧ f k = nI (x k) ∧ s k = nI (y k) ∧ now (o + 2 + 3 * k) = nI (x k) ∧ now (o + 2 + 3 * k + 1) = nI (y k) ∧ (n k = nI 1 ∨ n k = nI 4294967295) ∧ now (o + 2 + 3 * k + 2) = n k
theorem gr_GA {v e : Int32} {f s n now : Nat → Int32} {o : Nat} (h : gr v e f s n now o) : ∃ (a E : Nat) (x y : Nat → Nat), GA v e f s n now o a E x y := by
  obtain ⟨a, E, h1, h2, h3, h4, h5, h6, h7, h8⟩ := h
  refine ⟨a, E, fun k => (f k).toNatClampNeg, fun k => (s k).toNatClampNeg, h1, h2, h3, h4, h5, h6, h7, fun k hk => ?_⟩
  obtain ⟨x, y, a1, a2, a3, a4, a5, a6, a7, a8, a9⟩ := h8 k hk
  simp only [a4, a5, ncl (show x < 2 ^ 31 by omega), ncl (show y < 2 ^ 31 by omega)]
  exact ⟨a1, a2, a3, trivial, trivial, a6, a7, a8, a9⟩
theorem GA_gr {v e : Int32} {f s n now : Nat → Int32} {o a E : Nat} {x y : Nat → Nat} (h : GA v e f s n now o a E x y) : gr v e f s n now o := by
  obtain ⟨h1, h2, h3, h4, h5, h6, h7, h8⟩ := h
  exact ⟨a, E, h1, h2, h3, h4, h5, h6, h7, fun k hk => ⟨x k, y k, h8 k hk⟩⟩
/-- where a directed edge begins, and where it ends -/
def tl (x y : Nat → Nat) (e : Nat) : Nat := if e % 2 = 0 then x (e / 2) else y (e / 2)
def hd (x y : Nat → Nat) (e : Nat) : Nat := if e % 2 = 0 then y (e / 2) else x (e / 2)
def nxt (x y : Nat → Nat) (e f : Nat) : Prop := hd x y e = tl x y f ∧ ¬ f = e ^^^ 1
theorem c_isFull {v : Int32} {E : Nat} (h : E ≤ 9) : f_X2_isFull v (nI E) = some (if E < 9 then nI 0 else nI 1) := by
  unfold f_X2_isFull
  simp (disch := omega) only [nlt]
  split <;> rfl
theorem c_hasVertex {p e : Int32} {a : Nat} (h : a < 2 ^ 31) : f_X2_hasVertex p (nI a) e = some (rng p a) := rng_c h
theorem c_hasEdge {p v : Int32} {a : Nat} (h : a < 2 ^ 31) : f_X2_hasEdge p v (nI a) = some (rng p a) := rng_c h
theorem c_hasDirected {p v : Int32} {a : Nat} (h : a < 2 ^ 20) : f_X2_hasDirected p v (nI a) = some (rng p (2 * a)) := by
  unfold f_X2_hasDirected
  rw [pk_mul]
  exact rng_c (by omega)
theorem rng_bq {p : Int32} {n : Nat} {α : Type} {x : Option α} : gd (bq (rng p n)) x = x := by unfold rng; exact gbqif
theorem m_isVertex {p s l st z : Int32} {now : Nat → Int32} {a : Nat} (h : a < 2 ^ 30) (h0 : now 0 = nI a) : f_X9_isVertex p s l st z now = some (rng p a) := by
  unfold f_X9_isVertex
  rw [ginb (by omega) (by omega), ncl (by omega), h0, rng_m h, bd_s, rng_bq]
theorem m_isEdge {p s l st z : Int32} {now : Nat → Int32} {a : Nat} (h : a < 2 ^ 30) (h0 : now 1 = nI a) : f_X9_isEdge p s l st z now = some (rng p a) := by
  unfold f_X9_isEdge
  rw [ginb (by omega) (by omega), ncl (by omega), h0, rng_m h, bd_s, rng_bq]
theorem m_isDirected {p s l st z : Int32} {now : Nat → Int32} {a : Nat} (h : a < 2 ^ 20) (h0 : now 1 = nI a) : f_X9_isDirected p s l st z now = some (rng p (2 * a)) := by
  unfold f_X9_isDirected
  rw [ginb (by omega) (by omega), ncl (by omega), h0, pk_mul, rng_m (by omega), bd_s, rng_bq]
section GRAPH
variable {v e : Int32} {f s n now : Nat → Int32} {a E : Nat} {x y : Nat → Nat}
theorem c_start (h : GA v e f s n now 0 a E x y) {d : Nat} (hd' : d < 2 * E) : f_X2_startOf (nI d) v e f s = some (nI (tl x y d)) := by
  obtain ⟨h1, h2, h3, h4, h5, h6, h7, h8⟩ := h
  obtain ⟨-, -, -, a4, a5, -⟩ := h8 (d / 2) (by omega)
  unfold f_X2_startOf tl
  simp (disch := omega) only [ndiv, pk_mul, nsub, neq0, ginb, ncl, a4, a5]
  by_cases hq : d % 2 = 0
  · rw [if_pos (by omega), if_pos hq]
  · rw [if_neg (by omega), if_neg hq]
theorem c_end (h : GA v e f s n now 0 a E x y) {d : Nat} (hd' : d < 2 * E) : f_X2_endOf (nI d) v e f s = some (nI (hd x y d)) := by
  obtain ⟨h1, h2, h3, h4, h5, h6, h7, h8⟩ := h
  obtain ⟨-, -, -, a4, a5, -⟩ := h8 (d / 2) (by omega)
  unfold f_X2_endOf hd
  simp (disch := omega) only [ndiv, pk_mul, nsub, neq0, ginb, ncl, a4, a5]
  by_cases hq : d % 2 = 0
  · rw [if_pos (by omega), if_pos hq]
  · rw [if_neg (by omega), if_neg hq]
theorem tl_lt (h : GA v e f s n now 0 a E x y) {d : Nat} (hd' : d < 2 * E) : tl x y d < a := by
  obtain ⟨h1, h2, h3, h4, h5, h6, h7, h8⟩ := h
  obtain ⟨a1, a2, -⟩ := h8 (d / 2) (by omega)
  unfold tl; split <;> assumption
theorem hd_lt (h : GA v e f s n now 0 a E x y) {d : Nat} (hd' : d < 2 * E) : hd x y d < a := by
  obtain ⟨h1, h2, h3, h4, h5, h6, h7, h8⟩ := h
  obtain ⟨a1, a2, -⟩ := h8 (d / 2) (by omega)
  unfold hd; split <;> assumption
theorem xor_lt {d E : Nat} (h : d < 2 * E) : d ^^^ 1 < 2 * E := by rw [xor1]; split <;> omega
theorem c_leads (h : GA v e f s n now 0 a E x y) {d t : Nat} (h1 : d < 2 * E) (h2 : t < 2 * E) : f_X2_leadsOn (nI d) (nI t) v e f s = some (@ite _ (nxt x y d t) (Classical.propDecidable _) (nI 1) (nI 0)) := by
  have ha : a ≤ 6 := h.2.1
  have hE : E ≤ 9 := h.2.2.1
  unfold f_X2_leadsOn nxt
  rw [c_end h h1, bd_s, c_start h h2, bd_s, nx_xor]
  have k1 := hd_lt h h1
  have k2 := tl_lt h h2
  have k3 := xor_lt h1
  simp (disch := omega) only [neq]
  by_cases e1 : hd x y d = tl x y t
  · rw [if_pos e1]
    by_cases e2 : t = d ^^^ 1
    · rw [if_pos e2, if_neg (fun q => q.2 e2)]
    · rw [if_neg e2, if_pos ⟨e1, e2⟩]
  · rw [if_neg e1, if_neg (fun q => e1 q.1)]
theorem m_end (h : GA v e f s n now 0 a E x y) {d : Nat} (hd' : d < 2 * E) {q1 q2 q3 q4 : Int32} : f_X9_endOf (nI d) (nI 0) q1 q2 q3 q4 now = some (nI (tl x y d)) ∧ f_X9_endOf (nI d) (nI 1) q1 q2 q3 q4 now = some (nI (hd x y d)) := by
  obtain ⟨h1, h2, h3, h4, h5, h6, h7, h8⟩ := h
  obtain ⟨-, -, -, -, -, a6, a7, -⟩ := h8 (d / 2) (by omega)
  rw [Nat.zero_add] at a6 a7
  unfold f_X9_endOf hd tl
  simp (disch := omega) only [ndiv, pk_mul, nsub, neq0]
  by_cases hq : d % 2 = 0
  · have hq' : d - d / 2 * 2 = 0 := by omega
    simp only [if_pos hq', if_pos hq, bd_s]
    simp (disch := omega) only [nI_add, ginb, ncl, Nat.add_zero, a6, a7, and_self]
  · have hq' : ¬ d - d / 2 * 2 = 0 := by omega
    simp only [if_neg hq', if_neg hq, bd_s]
    simp (disch := omega) only [nsub, nI_add, ginb, ncl, Nat.add_zero, Nat.sub_zero, Nat.sub_self, a6, a7, and_self]
theorem m_sign (h : GA v e f s n now 0 a E x y) {d : Nat} (hd' : d < 2 * E) {q1 q2 q3 q4 : Int32} : f_X9_signOf (nI d) q1 q2 q3 q4 now = some (n (d / 2)) := by
  obtain ⟨h1, h2, h3, h4, h5, h6, h7, h8⟩ := h
  obtain ⟨-, -, -, -, -, -, -, -, a9⟩ := h8 (d / 2) (by omega)
  rw [Nat.zero_add] at a9
  unfold f_X9_signOf
  simp (disch := omega) only [ndiv, pk_mul, nI_add, ginb, ncl, a9]
theorem m_next (h : GA v e f s n now 0 a E x y) {d t : Nat} (h1 : d < 2 * E) (h2 : t < 2 * E) {q1 q2 q3 q4 : Int32} : f_X9_isNext (nI d) (nI t) q1 q2 q3 q4 now = some (@ite _ (nxt x y d t) (Classical.propDecidable _) (nI 1) (nI 0)) := by
  have ha : a ≤ 6 := h.2.1
  have hE : E ≤ 9 := h.2.2.1
  unfold f_X9_isNext nxt
  rw [(m_end h h1).2, bd_s, (m_end h h2).1, bd_s, nx_xor]
  have k1 := hd_lt h h1
  have k2 := tl_lt h h2
  have k3 := xor_lt h1
  simp (disch := omega) only [neq]
  by_cases e1 : hd x y d = tl x y t
  · rw [if_pos e1]
    by_cases e2 : t = d ^^^ 1
    · rw [if_pos e2, if_neg (fun q => q.2 e2)]
    · rw [if_neg e2, if_pos ⟨e1, e2⟩]
  · rw [if_neg e1, if_neg (fun q => e1 q.1)]
end GRAPH
