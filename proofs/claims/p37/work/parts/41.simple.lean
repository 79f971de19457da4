theorem upf_same {γ : Type} {F : Nat → γ} {k : Nat} {x : γ} : upf F k x k = x := by unfold upf; simp
theorem pr_vertexCount : Pr_vertexCount := by
  intro I J K L C Mm hI
  obtain ⟨⟨a, E, x, y, hG⟩, -, -⟩ := And.intro (gr_GA hI.1) (And.intro trivial trivial)
  refine ⟨K 0, K 0, rfl, ?_, rfl, hI⟩
  unfold f_X9_vertexCount
  rw [ginb (by omega) (by omega), ncl (by omega), hG.2.2.2.2.2.1, hG.2.2.2.1]
theorem pr_edgeCount : Pr_edgeCount := by
  intro I J K L C Mm hI
  obtain ⟨a, E, x, y, hG⟩ := gr_GA hI.1
  refine ⟨K 1, K 1, rfl, ?_, rfl, hI⟩
  have h1 : I 10 1 = nI E := hG.2.2.2.2.2.2.1
  unfold f_X9_edgeCount
  rw [ginb (by omega) (by omega), ncl (by omega), h1, hG.2.2.2.2.1]
theorem pr_headOf : Pr_headOf := by
  intro I J K L C Mm p1 hI
  obtain ⟨a, E, x, y, hG⟩ := gr_GA hI.1
  have hE : E ≤ 9 := hG.2.2.1
  have h1 : I 10 1 = nI E := hG.2.2.2.2.2.2.1
  unfold f_X8_headOf f_X9_headOf
  rw [show K 1 = nI E from hG.2.2.2.2.1, c_hasDirected (by omega), m_isDirected (by omega) h1, bd_s, bd_s]
  rcases rng_cases p1 (n := 2 * E) (by omega) with h | ⟨h, j, hj, rfl⟩
  · simp (disch := omega) only [h, neq0, if_pos]
    exact ⟨_, _, rfl, rfl, rfl, hI⟩
  · rw [← show K 1 = nI E from hG.2.2.2.2.1]
    simp (disch := omega) only [h, neq0, if_neg, c_end hG hj, (m_end hG hj).2, bd_s]
    exact ⟨_, _, rfl, rfl, rfl, hI⟩
theorem pr_follows : Pr_follows := by
  intro I J K L C Mm p1 p2 hI
  obtain ⟨a, E, x, y, hG⟩ := gr_GA hI.1
  have hE : E ≤ 9 := hG.2.2.1
  have h1 : I 10 1 = nI E := hG.2.2.2.2.2.2.1
  have hK : K 1 = nI E := hG.2.2.2.2.1
  unfold f_X8_follows f_X9_follows
  rw [show f_X2_hasDirected p1 (K 0) (K 1) = some (rng p1 (2 * E)) by rw [hK]; exact c_hasDirected (by omega), show f_X2_hasDirected p2 (K 0) (K 1) = some (rng p2 (2 * E)) by rw [hK]; exact c_hasDirected (by omega), m_isDirected (by omega) h1, m_isDirected (by omega) h1, bd_s, bd_s, bd_s, bd_s]
  rcases rng_cases p1 (n := 2 * E) (by omega) with h | ⟨h, j, hj, rfl⟩
  · simp (disch := omega) only [h, neq0, if_pos]
    exact ⟨_, _, rfl, rfl, rfl, hI⟩
  · rcases rng_cases p2 (n := 2 * E) (by omega) with h' | ⟨h', t, ht, rfl⟩
    · simp (disch := omega) only [h, h', neq0, if_pos, if_neg]
      exact ⟨_, _, rfl, rfl, rfl, hI⟩
    · rw [h, h', c_leads hG hj ht, m_next hG hj ht]
      by_cases hn : nxt x y j t
      · rw [if_pos hn]
        simp (disch := omega) only [neq0, if_neg, bd_s]
        exact ⟨_, _, rfl, rfl, rfl, hI⟩
      · rw [if_neg hn]
        simp (disch := omega) only [neq0, if_neg, if_pos, bd_s]
        exact ⟨_, _, rfl, rfl, rfl, hI⟩
/-- how many of the first k edges have an end at v -/
def degN (x y : Nat → Nat) (v : Nat) : Nat → Nat
  | 0 => 0
  | k + 1 => degN x y v k + if x k = v ∨ y k = v then 1 else 0
def degM (x y : Nat → Nat) (v : Nat) : Nat → Nat
  | 0 => 0
  | k + 1 => degM x y v k + if tl x y k = v then 1 else 0
theorem degN_le (x y : Nat → Nat) (v : Nat) : ∀ k, degN x y v k ≤ k
  | 0 => Nat.le_refl 0
  | k + 1 => by have := degN_le x y v k; unfold degN; split <;> omega
theorem degM_le (x y : Nat → Nat) (v : Nat) : ∀ k, degM x y v k ≤ k
  | 0 => Nat.le_refl 0
  | k + 1 => by have := degM_le x y v k; unfold degM; split <;> omega
theorem degM_eq {x y : Nat → Nat} {v : Nat} : ∀ k, (∀ j, j < k → x j ≠ y j) → degM x y v (2 * k) = degN x y v k
  | 0, _ => rfl
  | k + 1, h => by
    have ih := degM_eq (v := v) k (fun j hj => h j (by omega))
    rw [show 2 * (k + 1) = 2 * k + 1 + 1 by omega]
    show degM x y v (2 * k) + (if tl x y (2 * k) = v then 1 else 0) + (if tl x y (2 * k + 1) = v then 1 else 0) = degN x y v k + _
    have hk := h k (by omega)
    have t0 : tl x y (2 * k) = x k := by unfold tl; rw [if_pos (by omega), show 2 * k / 2 = k by omega]
    have t1 : tl x y (2 * k + 1) = y k := by unfold tl; rw [if_neg (by omega), show (2 * k + 1) / 2 = k by omega]
    rw [ih, t0, t1]
    by_cases h1 : x k = v <;> by_cases h2 : y k = v <;> simp [h1, h2]
    exact hk (h1.trans h2.symm)
theorem c_edgesAt {v e : Int32} {f s n now : Nat → Int32} {a E : Nat} {x y : Nat → Nat} (h : GA v e f s n now 0 a E x y) {w : Nat} (hw : w < a) : f_X2_edgesAt (nI w) v e f s = some (nI (degN x y w E)) := by
  obtain ⟨h1, h2, h3, h4, h5, h6, h7, h8⟩ := h
  unfold f_X2_edgesAt
  have hr := wh_cnt (b := b_X2_edgesAt_4 (nI w) e f s) (S := fun i => (nI i, nI (degN x y w i))) E (r := nI (degN x y w E)) (fun i hi => ?_) ?_ 0 (Nat.zero_le _)
  · rw [show ((nI 0, nI 0) : Int32 × Int32) = (nI 0, nI (degN x y w 0)) from rfl, bd_t hr]
  · obtain ⟨b1, b2, b3, b4, b5, -⟩ := h8 i hi
    unfold b_X2_edgesAt_4
    simp (disch := omega) only [h5, nle, if_neg, ginb, ncl, b4, b5, neq, nI_add]
    show (_ : Option ((Int32 × Int32) ⊕ Int32)) = some (Sum.inl (nI (i + 1), nI (degN x y w i + if x i = w ∨ y i = w then 1 else 0)))
    by_cases e1 : x i = w
    · rw [if_pos e1, if_pos (Or.inl e1)]
    · rw [if_neg e1]
      by_cases e2 : y i = w
      · rw [if_pos e2, if_pos (Or.inr e2)]
      · rw [if_neg e2, if_neg (by omega)]; rfl
  · unfold b_X2_edgesAt_4
    simp (disch := omega) only [h5, nle, if_pos]
theorem m_degreeOf {v e : Int32} {f s n now : Nat → Int32} {a E : Nat} {x y : Nat → Nat} (h : GA v e f s n now 0 a E x y) {w : Nat} (hw : w < a) {q1 q2 q3 q4 : Int32} : f_X9_degreeOf (nI w) q1 q2 q3 q4 now = some (nI (degN x y w E)) := by
  have hE : E ≤ 9 := h.2.2.1
  have h7 : now 1 = nI E := h.2.2.2.2.2.2.1
  have ha : a ≤ 6 := h.2.1
  unfold f_X9_degreeOf
  have hr := wh_cnt (b := b_X9_degreeOf_4 (nI w) q1 q2 q3 q4 now) (S := fun i => (nI i, nI (degM x y w i))) (2 * E) (r := nI (degM x y w (2 * E))) (fun i hi => ?_) ?_ 0 (Nat.zero_le _)
  · rw [show ((nI 0, nI 0) : Int32 × Int32) = (nI 0, nI (degM x y w 0)) from rfl, bd_t hr, degM_eq E (fun j hj => (h.2.2.2.2.2.2.2 j hj).2.2.1)]
  · have k1 := tl_lt h hi
    unfold b_X9_degreeOf_4
    simp (disch := omega) only [ginb, ncl, h7, pk_mul, nle, if_neg, (m_end h hi).1, bd_s, neq, nm_s]
    show (_ : Option ((Int32 × Int32) ⊕ Int32)) = some (Sum.inl (nI (i + 1), nI (degM x y w i + if tl x y i = w then 1 else 0)))
    by_cases e1 : tl x y i = w
    · simp only [if_pos e1, bd_s, nI_add]
    · simp only [if_neg e1, bd_s, nI_add]
  · unfold b_X9_degreeOf_4
    simp (disch := omega) only [ginb, ncl, h7, pk_mul, nle, if_pos]
theorem pr_degree : Pr_degree := by
  intro I J K L C Mm p1 hI
  obtain ⟨a, E, x, y, hG⟩ := gr_GA hI.1
  have ha : a ≤ 6 := hG.2.1
  have h1 : I 10 0 = nI a := hG.2.2.2.2.2.1
  have hK : K 0 = nI a := hG.2.2.2.1
  unfold f_X8_degree f_X9_degree
  rw [show f_X2_hasVertex p1 (K 0) (K 1) = some (rng p1 a) by rw [hK]; exact c_hasVertex (by omega), m_isVertex (by omega) h1, bd_s, bd_s]
  rcases rng_cases p1 (n := a) (by omega) with h | ⟨h, j, hj, rfl⟩
  · simp (disch := omega) only [h, neq0, if_pos]
    exact ⟨_, _, rfl, rfl, rfl, hI⟩
  · simp (disch := omega) only [h, neq0, if_neg, c_edgesAt hG hj, m_degreeOf hG hj, bd_s]
    exact ⟨_, _, rfl, rfl, rfl, hI⟩
