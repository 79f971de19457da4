def upf {γ : Type} (F : Nat → γ) (k : Nat) (x : γ) : Nat → γ := fun i => bif i == k then x else F i
abbrev PP (g : GG) (hx : Nat) (α : Nat → Nat) (hm : Nat) (β : Nat → Nat) (I : Nat → Nat → Int32) (J : Nat → Nat → Int64) (K : Nat → Int32) : va_W := [ob hx 8 [.ref (α 0), .ref (α 4), .ref (α 8), .ref (α 9), .ref (α 11), .ref (α 14), .ref (α 21), .ref (α 23), .ref (α 26)], ob (α 0) 2 [.int (K 0), .int (K 1), .ref (α 1), .ref (α 2), .ref (α 3)], aI g (α 1) 9 (I 0), aI g (α 2) 9 (I 1), aI g (α 3) 9 (I 2), ob (α 4) 2 [.int (K 2), .int (K 3), .ref (α 5), .ref (α 6), .ref (α 7)], aI g (α 5) 9 (I 3), aI g (α 6) 9 (I 4), aI g (α 7) 9 (I 5), ob (α 8) 4 [.int (K 4), .ref (α 29)], ob (α 9) 1 [.int (K 5), .ref (α 10), .int (K 6), .int (K 7), .int (K 8), .int (K 9)], aI g (α 10) 60 (I 6), ob (α 11) 3 [.ref (α 12), .ref (α 13)], aI g (α 12) 6 (I 7), aI g (α 13) 6 (I 8), ob (α 14) 7 [.ref (α 15), .ref (α 16), .ref (α 17), .ref (α 18), .ref (α 19), .ref (α 20)], aJ g (α 15) 19 (J 0), aJ g (α 16) 19 (J 1), aJ g (α 17) 19 (J 2), aJ g (α 18) 19 (J 3), aJ g (α 19) 18 (J 4), aJ g (α 20) 6 (J 5), ob (α 21) 5 [.ref (α 22), .int (K 10)], aI g (α 22) 5 (I 9), ob (α 23) 0 [.ref (α 24), .ref (α 25)], aJ g (α 24) 19 (J 6), aJ g (α 25) 19 (J 7), ob (α 26) 6 [.ref (α 27), .ref (α 28)], aJ g (α 27) 19 (J 8), aM g (α 28) 64 (mref (fun i => α (i + 62))), ob hm 9 [.ref (β 0), .ref (β 1), .ref (β 2), .int (K 11), .ref (β 3), .int (K 12), .int (K 13), .ref (β 4), .int (K 14), .ref (β 5), .ref (β 6), .ref (β 7), .ref (β 8), .ref (β 9), .ref (β 10), .ref (β 11), .ref (β 12), .ref (β 13), .ref (β 14), .ref (β 15), .ref (β 16), .ref (β 17)], aI g (β 0) 29 (I 10), aI g (β 1) 29 (I 11), aI g (β 2) 232 (I 12), aI g (β 3) 60 (I 13), aI g (β 4) 6 (I 14), aJ g (β 5) 324 (J 9), aJ g (β 6) 324 (J 10), aJ g (β 7) 324 (J 11), aJ g (β 8) 19 (J 12), aJ g (β 9) 19 (J 13), aJ g (β 10) 20 (J 14), aJ g (β 11) 18 (J 15), aJ g (β 12) 18 (J 16), aJ g (β 13) 19 (J 17), aJ g (β 14) 19 (J 18), aJ g (β 15) 19 (J 19), aJ g (β 16) 19 (J 20), aI g (β 17) 5 (I 15)]
abbrev WG (g : GG) (α : Nat → Nat) (L : List Nat) (C : Nat → GC) : va_W := grp g (α 29) (fun i => α (30 + 4 * i)) (fun i => α (31 + 4 * i)) (fun i => α (32 + 4 * i)) (fun i => α (33 + 4 * i)) L C
abbrev WR (g : GG) (α : Nat → Nat) (Mm : Nat → Nat → Int64) : va_W := mrows g (fun i => α (i + 62)) Mm
abbrev WW (g : GG) (hx : Nat) (α : Nat → Nat) (hm : Nat) (β : Nat → Nat) (I : Nat → Nat → Int32) (J : Nat → Nat → Int64) (K : Nat → Int32) (L : List Nat) (C : Nat → GC) (Mm : Nat → Nat → Int64) : va_W := PP g hx α hm β I J K ++ (WG g α L C ++ WR g α Mm)
theorem pre_C {P G Pc : va_W} {I : List Nat} (h : I.map (fun i => P[i]?) = Pc.map some) : I.map (fun i => (P ++ G)[i]?) = Pc.map some := by
  rw [← h]
  apply List.map_congr_left
  intro i hi
  have : P[i]? ∈ I.map (fun i => P[i]?) := List.mem_map.mpr ⟨i, hi, rfl⟩
  rw [h] at this
  obtain ⟨q, -, hq⟩ := List.mem_map.mp this
  exact List.getElem?_append_left (List.getElem?_eq_some_iff.mp hq.symm).1
theorem pre_S {P P2 G u : va_W} {I : List Nat} {k : Nat} (hk : P.length = k) (hI : (I.all (fun i => decide (i < k))) = true) (h : setAll P I u = P2) : setAll (P ++ G) I u = P2 ++ G := by
  rw [setAll_left _ _ _ _ (fun i hi => by rw [hk]; exact of_decide_eq_true (List.all_eq_true.mp hI i hi)), h]
theorem mid_C {P Pc G S : va_W} {I : List Nat} {k n : Nat} (hk : P.length = k) (hn : G.length = n) (h : I.map (fun i => P[i]?) = Pc.map some) : (I ++ blk k n).map (fun i => (P ++ (G ++ S))[i]?) = (Pc ++ G).map some := by
  rw [← List.append_assoc]
  exact pre_C (blk_C hk hn h)
theorem mid_S {P P2 Pc2 G G2 S : va_W} {I : List Nat} {k n : Nat} (hk : P.length = k) (hn : G.length = n) (hn2 : G2.length = n) (hl : I.length = Pc2.length) (hI : (I.all (fun i => decide (i < k))) = true) (h : setAll P I Pc2 = P2) : setAll (P ++ (G ++ S)) (I ++ blk k n) (Pc2 ++ G2) = P2 ++ (G2 ++ S) := by
  rw [← List.append_assoc, ← List.append_assoc, setAll_left _ _ _ _ (fun i hi => ?_), blk_S hk hn hn2 hl hI h]
  rw [List.length_append, hk, hn]
  rcases List.mem_append.mp hi with h1 | h1
  · have := of_decide_eq_true (List.all_eq_true.mp hI i h1); omega
  · have := (List.mem_range'_1.mp h1); omega
theorem end_C {P Pc G S : va_W} {I : List Nat} {k n m : Nat} (hk : P.length = k) (hn : G.length = n) (hm : S.length = m) (h : I.map (fun i => P[i]?) = Pc.map some) : (I ++ blk (k + n) m).map (fun i => (P ++ (G ++ S))[i]?) = (Pc ++ S).map some := by
  rw [← List.append_assoc]
  exact blk_C (by rw [List.length_append, hk, hn]) hm (pre_C h)
theorem end_S {P P2 Pc2 G S S2 : va_W} {I : List Nat} {k n m : Nat} (hk : P.length = k) (hn : G.length = n) (hm : S.length = m) (hm2 : S2.length = m) (hl : I.length = Pc2.length) (hI : (I.all (fun i => decide (i < k))) = true) (h : setAll P I Pc2 = P2) : setAll (P ++ (G ++ S)) (I ++ blk (k + n) m) (Pc2 ++ S2) = P2 ++ (G ++ S2) := by
  rw [← List.append_assoc, ← List.append_assoc]
  have hI2 : (I.all (fun i => decide (i < k + n))) = true := List.all_eq_true.mpr fun i hi => decide_eq_true (by have := of_decide_eq_true (List.all_eq_true.mp hI i hi); omega)
  exact blk_S (by rw [List.length_append, hk, hn]) hm hm2 hl hI2 (pre_S hk hI h)
/-- what law and prover keep: the machine, the words, the script -/
def LC (g : GG) (p : Program) (s : State) (m : MethodId) (c : Code) (b Lx : Nat) (xs : Nat → Int32) : Prop := Cx g p s m #[.ref b] c cL_law RL 4 ∧ va_X b Lx xs s s.heap ∧ b < s.heap.size
