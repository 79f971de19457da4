/-! what the editing calls do to the plain state -/
theorem h00 : (nI 0 : Int32) = 0 := by decide
theorem h10 : ¬ (nI 1 : Int32) = 0 := by decide
theorem RS.e {A : AG} {hs : List AG} {t : List Nat} {S : QS} (h : RS A hs t S) : S.2.2.1 1 = nI A.2.length := h.1.2.2.1
theorem RS.v {A : AG} {hs : List AG} {t : List Nat} {S : QS} (h : RS A hs t S) : S.2.2.1 0 = nI A.1 := h.1.2.1
theorem o_vc {A : AG} {hs : List AG} {t : List Nat} {S : QS} (h : RS A hs t S) : ∃ S', o_vertexCount S = some (nI A.1, S') ∧ RS A hs t S' :=
  ⟨S, by rw [← h.v]; rfl, h⟩
theorem o_ec {A : AG} {hs : List AG} {t : List Nat} {S : QS} (h : RS A hs t S) : ∃ S', o_edgeCount S = some (nI A.2.length, S') ∧ RS A hs t S' :=
  ⟨S, by rw [← h.e]; rfl, h⟩
theorem s_configure {A : AG} {hs : List AG} {t : List Nat} {S : QS} (h : RS A hs t S) {b : Nat} (h1 : 1 ≤ b) (h2 : b ≤ 6) : ∃ S', o_configure (nI b) S = some (nI A.1, S') ∧ RS (b, []) (psh hs A) t S' := by
  obtain ⟨hg, hh, ht⟩ := h
  obtain ⟨c', L', C', s1, s2⟩ := s_save hg hh
  have c1 : ¬ nI b < nI 1 := by rw [nlt (by omega) (by omega)]; omega
  have c3 : nI b ≤ nI 6 := by rw [nle (by omega) (by omega)]; omega
  refine ⟨(S.1, S.2.1, upf (upf (upf S.2.2.1 0 (nI b)) 1 (nI 0)) 4 c', L', C', S.2.2.2.2.2), ?_, ⟨⟨h1, h2, Nat.zero_le 9, fun k hk => absurd hk (Nat.not_lt_zero k)⟩, rfl, rfl, fun k hk => absurd hk (Nat.not_lt_zero k)⟩, s2, ht⟩
  unfold o_configure f_X8_configure f_X2_makeEmpty
  rw [if_neg c1, if_pos c3, bd_t s1, bd_s, ← hg.2.1]
  rfl
theorem s_configure_no {A : AG} {hs : List AG} {t : List Nat} {S : QS} (h : RS A hs t S) {p : Int32} (hp : p < nI 1 ∨ ¬ p ≤ nI 6) : ∃ S', o_configure p S = some (nI 4294967295, S') ∧ RS A hs t S' := by
  refine ⟨(S.1, S.2.1, upf (upf (upf S.2.2.1 0 (S.2.2.1 0)) 1 (S.2.2.1 1)) 4 (S.2.2.1 4), S.2.2.2.1, S.2.2.2.2.1, S.2.2.2.2.2), ?_, h.1, h.2.1, h.2.2⟩
  unfold o_configure f_X8_configure
  by_cases c1 : p < nI 1
  · rw [if_pos c1]; rfl
  · rw [if_neg c1, if_neg (hp.resolve_left c1)]; rfl
theorem getD_app {A : AG} {q : Nat × Nat × Bool} {k : Nat} : (A.2 ++ [q]).getD k (0, 0, false) = if k < A.2.length then A.2.getD k (0, 0, false) else if k = A.2.length then q else (0, 0, false) := by
  simp only [List.getD_eq_getElem?_getD]
  by_cases h : k < A.2.length
  · rw [if_pos h, List.getElem?_append_left h]
  · rw [if_neg h, List.getElem?_append_right (by omega)]
    by_cases h2 : k = A.2.length
    · subst h2; rw [if_pos rfl, Nat.sub_self]; rfl
    · rw [if_neg h2, List.getElem?_eq_none (by show 1 ≤ k - A.2.length; omega)]; rfl
theorem VG_app {A : AG} (h : VG A) {u w : Nat} {b : Bool} (hu : u < A.1) (hw : w < A.1) (hne : u ≠ w) (hE : A.2.length < 9) : VG (A.1, A.2 ++ [(u, w, b)]) := by
  obtain ⟨h1, h2, h3, h4⟩ := h
  refine ⟨h1, h2, ?_, fun k hk => ?_⟩
  · show (A.2 ++ [(u, w, b)]).length ≤ 9
    rw [List.length_append]; show A.2.length + 1 ≤ 9; omega
  · have hk' : k < A.2.length + 1 := by
      have h5 : k < (A.2 ++ [(u, w, b)]).length := hk
      rw [List.length_append] at h5; exact h5
    unfold gX gY
    show ((A.2 ++ [(u, w, b)]).getD k (0, 0, false)).1 < A.1 ∧ ((A.2 ++ [(u, w, b)]).getD k (0, 0, false)).2.1 < A.1 ∧ ((A.2 ++ [(u, w, b)]).getD k (0, 0, false)).1 ≠ ((A.2 ++ [(u, w, b)]).getD k (0, 0, false)).2.1
    rw [getD_app]
    by_cases h6 : k < A.2.length
    · rw [if_pos h6]; exact h4 k h6
    · rw [if_neg h6, if_pos (by omega)]; exact ⟨hu, hw, hne⟩
theorem s_addEdge {A : AG} {hs : List AG} {t : List Nat} {S : QS} (h : RS A hs t S) {u w : Nat} {b : Bool} (hu : u < A.1) (hw : w < A.1) (hne : u ≠ w) (hE : A.2.length < 9) : ∃ S', o_addEdge (nI u) (nI w) (sgI b) S = some (nI A.2.length, S') ∧ RS (A.1, A.2 ++ [(u, w, b)]) (psh hs A) t S' := by
  obtain ⟨hg, hh, ht⟩ := h
  obtain ⟨hV, g4, g5, g6⟩ := id hg
  have hV' := hV
  obtain ⟨v1, v2, v3, v4⟩ := hV'
  obtain ⟨c', L', C', s1, s2⟩ := s_save hg hh
  have hne' : ¬ nI u = nI w := by rw [neq (by omega) (by omega)]; exact hne
  refine ⟨((upf (upf (upf S.1 0 (upd (S.1 0) A.2.length (nI u))) 1 (upd (S.1 1) A.2.length (nI w))) 2 (upd (S.1 2) A.2.length (sgI b))), S.2.1, upf (upf S.2.2.1 1 (nI (A.2.length + 1))) 4 c', L', C', S.2.2.2.2.2), ?_, ⟨VG_app hV hu hw hne hE, g4, ?_, fun k hk => ?_⟩, s2, ht⟩
  · unfold o_addEdge f_X8_addEdge
    rw [g4, c_hasVertex (by omega), c_hasVertex (by omega), rng_in hu (by omega), rng_in hw (by omega), bd_s, if_neg h10, bd_s, if_neg h10, if_neg hne', g5, c_isFull v3, if_pos hE, bd_s, if_pos h00]
    rw [g4, g5] at s1
    have hc := c_append (v := nI A.1) hE (nI u) (nI w) (sgI b) (S.1 0) (S.1 1) (S.1 2)
    cases b with
    | false =>
      rw [if_pos (show sgI false = nI 1 from rfl), bd_t s1, hc, bd_s, nsub (by omega)]
      rfl
    | true =>
      rw [if_neg (show ¬ sgI true = nI 1 by decide), if_pos (show sgI true = nI 4294967295 from rfl), bd_t s1, hc, bd_s, nsub (by omega)]
      rfl
  · show nI (A.2.length + 1) = nI (A.2 ++ [(u, w, b)]).length
    rw [List.length_append]; rfl
  · have hk' : k < A.2.length + 1 := by
      have h5 : k < (A.2 ++ [(u, w, b)]).length := hk
      rw [List.length_append] at h5; exact h5
    show upd (S.1 0) A.2.length (nI u) k = nI ((A.2 ++ [(u, w, b)]).getD k (0, 0, false)).1 ∧ upd (S.1 1) A.2.length (nI w) k = nI ((A.2 ++ [(u, w, b)]).getD k (0, 0, false)).2.1 ∧ upd (S.1 2) A.2.length (sgI b) k = sgI ((A.2 ++ [(u, w, b)]).getD k (0, 0, false)).2.2
    rw [upd_at, upd_at, upd_at, getD_app]
    by_cases h6 : k < A.2.length
    · have h7 : ¬ k = A.2.length := by omega
      simp only [if_neg h7, if_pos h6]; exact g6 k h6
    · have h7 : k = A.2.length := by omega
      rw [if_pos h7, if_pos h7, if_pos h7, if_neg h6, if_pos h7]; exact ⟨rfl, rfl, rfl⟩
theorem s_addEdge_full {A : AG} {hs : List AG} {t : List Nat} {S : QS} (h : RS A hs t S) {u w : Nat} {b : Bool} (hu : u < A.1) (hw : w < A.1) (hne : u ≠ w) (hE : A.2.length = 9) : ∃ S', o_addEdge (nI u) (nI w) (sgI b) S = some (nI 4294967293, S') ∧ RS A hs t S' := by
  obtain ⟨hg, hh, ht⟩ := id h
  obtain ⟨hV, g4, g5, g6⟩ := id hg
  obtain ⟨v1, v2, v3, v4⟩ := hV
  have hne' : ¬ nI u = nI w := by rw [neq (by omega) (by omega)]; exact hne
  refine ⟨((upf (upf (upf S.1 0 (S.1 0)) 1 (S.1 1)) 2 (S.1 2)), S.2.1, upf (upf S.2.2.1 1 (nI A.2.length)) 4 (S.2.2.1 4), S.2.2.2.1, S.2.2.2.2.1, S.2.2.2.2.2), ?_, ⟨hg.1, g4, rfl, g6⟩, h.2.1, h.2.2⟩
  unfold o_addEdge f_X8_addEdge
  rw [g4, c_hasVertex (by omega), c_hasVertex (by omega), rng_in hu (by omega), rng_in hw (by omega), bd_s, if_neg h10, bd_s, if_neg h10, if_neg hne', g5, c_isFull v3, if_neg (show ¬ A.2.length < 9 by omega), bd_s, if_neg h10]
  cases b with
  | false => rw [if_pos (show sgI false = nI 1 from rfl)]; rfl
  | true => rw [if_neg (show ¬ sgI true = nI 1 by decide), if_pos (show sgI true = nI 4294967295 from rfl)]; rfl
/-- an edge that may not be -/
theorem s_addEdge_no {A : AG} {hs : List AG} {t : List Nat} {S : QS} (h : RS A hs t S) {p1 p2 p3 : Int32} (hp : rng p1 A.1 = nI 0 ∨ rng p2 A.1 = nI 0 ∨ p1 = p2 ∨ (¬ p3 = nI 1 ∧ ¬ p3 = nI 4294967295)) : ∃ S', o_addEdge p1 p2 p3 S = some (nI 4294967295, S') ∧ RS A hs t S' := by
  obtain ⟨hg, hh, ht⟩ := id h
  obtain ⟨hV, g4, g5, g6⟩ := id hg
  obtain ⟨v1, v2, v3, v4⟩ := hV
  refine ⟨((upf (upf (upf S.1 0 (S.1 0)) 1 (S.1 1)) 2 (S.1 2)), S.2.1, upf (upf S.2.2.1 1 (S.2.2.1 1)) 4 (S.2.2.1 4), S.2.2.2.1, S.2.2.2.2.1, S.2.2.2.2.2), ?_, h.1, h.2.1, h.2.2⟩
  unfold o_addEdge f_X8_addEdge
  rw [g4, c_hasVertex (by omega), c_hasVertex (by omega), bd_s]
  by_cases c1 : rng p1 A.1 = 0
  · rw [if_pos c1]; rfl
  rw [if_neg c1, bd_s]
  by_cases c2 : rng p2 A.1 = 0
  · rw [if_pos c2]; rfl
  rw [if_neg c2]
  by_cases c3 : p1 = p2
  · rw [if_pos c3]; rfl
  rw [if_neg c3]
  rcases hp with hp | hp | hp | ⟨hp1, hp2⟩
  · exact absurd (hp.trans h00) c1
  · exact absurd (hp.trans h00) c2
  · exact absurd hp c3
  · rw [if_neg hp1, if_neg hp2]; rfl
theorem getD_erase {l : List (Nat × Nat × Bool)} {j k : Nat} (d : Nat × Nat × Bool) : (l.eraseIdx j).getD k d = if k < j then l.getD k d else l.getD (k + 1) d := by
  simp only [List.getD_eq_getElem?_getD, List.getElem?_eraseIdx]
  split <;> rfl
theorem s_removeEdge {A : AG} {hs : List AG} {t : List Nat} {S : QS} (h : RS A hs t S) {j : Nat} (hj : j < A.2.length) : ∃ S', o_removeEdge (nI j) S = some (nI (A.2.length - 1), S') ∧ RS (A.1, A.2.eraseIdx j) (psh hs A) t S' := by
  obtain ⟨hg, hh, ht⟩ := h
  obtain ⟨hV, g4, g5, g6⟩ := id hg
  obtain ⟨v1, v2, v3, v4⟩ := id hV
  obtain ⟨c', L', C', s1, s2⟩ := s_save hg hh
  obtain ⟨f', s', n', d1, d2⟩ := c_delete hj v3 (nI A.1) (S.1 0) (S.1 1) (S.1 2)
  have hlen : (A.2.eraseIdx j).length = A.2.length - 1 := by rw [List.length_eraseIdx, if_pos hj]
  refine ⟨((upf (upf (upf S.1 0 f') 1 s') 2 n'), S.2.1, upf (upf S.2.2.1 1 (nI (A.2.length - 1))) 4 c', L', C', S.2.2.2.2.2), ?_, ⟨⟨v1, v2, ?_, fun k hk => ?_⟩, g4, ?_, fun k hk => ?_⟩, s2, ht⟩
  · unfold o_removeEdge f_X8_removeEdge
    rw [g4, g5] at s1
    rw [g4, g5, c_hasEdge (by omega), rng_in hj (by omega), bd_s, if_neg h10, bd_t s1, bd_t d1]
    rfl
  · show (A.2.eraseIdx j).length ≤ 9
    omega
  · have hk' : k < A.2.length - 1 := by rw [← hlen]; exact hk
    unfold gX gY
    show ((A.2.eraseIdx j).getD k (0, 0, false)).1 < A.1 ∧ ((A.2.eraseIdx j).getD k (0, 0, false)).2.1 < A.1 ∧ ((A.2.eraseIdx j).getD k (0, 0, false)).1 ≠ ((A.2.eraseIdx j).getD k (0, 0, false)).2.1
    rw [getD_erase]
    by_cases h6 : k < j
    · rw [if_pos h6]; exact v4 k (by omega)
    · rw [if_neg h6]; exact v4 (k + 1) (by omega)
  · show nI (A.2.length - 1) = nI (A.2.eraseIdx j).length
    rw [hlen]
  · have hk' : k < A.2.length - 1 := by rw [← hlen]; exact hk
    obtain ⟨a1, a2, a3⟩ := d2 k hk'
    show f' k = nI ((A.2.eraseIdx j).getD k (0, 0, false)).1 ∧ s' k = nI ((A.2.eraseIdx j).getD k (0, 0, false)).2.1 ∧ n' k = sgI ((A.2.eraseIdx j).getD k (0, 0, false)).2.2
    rw [a1, a2, a3, getD_erase]
    by_cases h6 : k < j
    · rw [if_pos h6, if_pos h6, if_pos h6, if_pos h6]; exact g6 k (by omega)
    · rw [if_neg h6, if_neg h6, if_neg h6, if_neg h6]; exact g6 (k + 1) (by omega)
theorem s_removeEdge_no {A : AG} {hs : List AG} {t : List Nat} {S : QS} (h : RS A hs t S) {p : Int32} (hp : rng p A.2.length = nI 0) : ∃ S', o_removeEdge p S = some (nI 4294967295, S') ∧ RS A hs t S' := by
  have hl := h.1.1.2.2.1
  refine ⟨((upf (upf (upf S.1 0 (S.1 0)) 1 (S.1 1)) 2 (S.1 2)), S.2.1, upf (upf S.2.2.1 1 (S.2.2.1 1)) 4 (S.2.2.1 4), S.2.2.2.1, S.2.2.2.2.1, S.2.2.2.2.2), ?_, h.1, h.2.1, h.2.2⟩
  unfold o_removeEdge f_X8_removeEdge
  rw [show f_X2_hasEdge p (S.2.2.1 0) (S.2.2.1 1) = some (nI 0) by rw [h.e, c_hasEdge (by omega), hp], bd_s, if_pos h00]
  rfl
theorem getD_set {l : List (Nat × Nat × Bool)} {j k : Nat} {q : Nat × Nat × Bool} (hj : j < l.length) (d : Nat × Nat × Bool) : (l.set j q).getD k d = if k = j then q else l.getD k d := by
  simp only [List.getD_eq_getElem?_getD, List.getElem?_set]
  by_cases h : j = k
  · subst h; rw [if_pos rfl, if_pos hj, if_pos rfl]; rfl
  · rw [if_neg h, if_neg (fun e => h e.symm)]
def flp (A : AG) (j : Nat) : AG := (A.1, A.2.set j (gX A j, gY A j, !(A.2.getD j (0, 0, false)).2.2))
theorem s_flipSign {A : AG} {hs : List AG} {t : List Nat} {S : QS} (h : RS A hs t S) {j : Nat} (hj : j < A.2.length) : ∃ S' r, o_flipSign (nI j) S = some (r, S') ∧ ¬ r = 0 ∧ RS (flp A j) (psh hs A) t S' := by
  obtain ⟨hg, hh, ht⟩ := h
  obtain ⟨hV, g4, g5, g6⟩ := id hg
  obtain ⟨v1, v2, v3, v4⟩ := id hV
  obtain ⟨c', L', C', s1, s2⟩ := s_save hg hh
  obtain ⟨b1, b2, b3⟩ := g6 j hj
  have hneg : -(cN A j) = sgI (!(A.2.getD j (0, 0, false)).2.2) := by
    unfold cN
    cases (A.2.getD j (0, 0, false)).2.2 <;> decide
  have hlen : (A.2.set j (gX A j, gY A j, !(A.2.getD j (0, 0, false)).2.2)).length = A.2.length := List.length_set
  refine ⟨(upf S.1 2 (upd (S.1 2) j (-(S.1 2 j))), S.2.1, upf S.2.2.1 4 c', L', C', S.2.2.2.2.2), -(S.1 2 j), ?_, ?_, ⟨⟨v1, v2, ?_, fun k hk => ?_⟩, g4, ?_, fun k hk => ?_⟩, s2, ht⟩
  · unfold o_flipSign f_X8_flipSign
    rw [show f_X2_hasEdge (nI j) (S.2.2.1 0) (S.2.2.1 1) = some (nI 1) by rw [g5, c_hasEdge (by omega), rng_in hj (by omega)], bd_s, if_neg h10, bd_t s1]
    simp (disch := omega) only [ginb, ncl]
    have e1 : upd (S.1 2) j (-(S.1 2 j)) j = -(S.1 2 j) := by rw [upd_at, if_pos rfl]
    rw [e1]
    rfl
  · rw [b3, hneg]
    cases (A.2.getD j (0, 0, false)).2.2 <;> decide
  · show (A.2.set j _).length ≤ 9
    rw [hlen]; exact v3
  · have hk' : k < A.2.length := by rw [← hlen]; exact hk
    unfold gX gY flp
    dsimp only
    rw [getD_set hj]
    by_cases h6 : k = j
    · subst h6; rw [if_pos rfl]; exact v4 k hk'
    · rw [if_neg h6]; exact v4 k hk'
  · show S.2.2.1 1 = nI (A.2.set j _).length
    rw [hlen]; exact g5
  · have hk' : k < A.2.length := by rw [← hlen]; exact hk
    show S.1 0 k = nI ((A.2.set j (gX A j, gY A j, !(A.2.getD j (0, 0, false)).2.2)).getD k (0, 0, false)).1 ∧ S.1 1 k = nI ((A.2.set j (gX A j, gY A j, !(A.2.getD j (0, 0, false)).2.2)).getD k (0, 0, false)).2.1 ∧ upd (S.1 2) j (-(S.1 2 j)) k = sgI ((A.2.set j (gX A j, gY A j, !(A.2.getD j (0, 0, false)).2.2)).getD k (0, 0, false)).2.2
    rw [getD_set hj, upd_at]
    by_cases h6 : k = j
    · subst h6
      rw [if_pos rfl, if_pos rfl]
      exact ⟨b1, b2, by rw [b3]; exact hneg⟩
    · rw [if_neg h6, if_neg h6]; exact g6 k hk'
theorem s_flipSign_no {A : AG} {hs : List AG} {t : List Nat} {S : QS} (h : RS A hs t S) {p : Int32} (hp : rng p A.2.length = nI 0) : ∃ S', o_flipSign p S = some (nI 0, S') ∧ RS A hs t S' := by
  have hl := h.1.1.2.2.1
  refine ⟨(upf S.1 2 (S.1 2), S.2.1, upf S.2.2.1 4 (S.2.2.1 4), S.2.2.2.1, S.2.2.2.2.1, S.2.2.2.2.2), ?_, h.1, h.2.1, h.2.2⟩
  unfold o_flipSign f_X8_flipSign
  rw [show f_X2_hasEdge p (S.2.2.1 0) (S.2.2.1 1) = some (nI 0) by rw [h.e, c_hasEdge (by omega), hp], bd_s, if_pos h00]
  rfl
theorem s_undo_no {A : AG} {t : List Nat} {S : QS} (h : RS A [] t S) : ∃ S', o_undo S = some (nI 4294967294, S') ∧ RS A [] t S' := by
  obtain ⟨hg, hh, ht⟩ := id h
  refine ⟨((upf (upf (upf S.1 0 (S.1 0)) 1 (S.1 1)) 2 (S.1 2)), S.2.1, upf (upf (upf S.2.2.1 0 (S.2.2.1 0)) 1 (S.2.2.1 1)) 4 (S.2.2.1 4), S.2.2.2.1, S.2.2.2.2.1, S.2.2.2.2.2), ?_, h.1, h.2.1, h.2.2⟩
  unfold o_undo f_X8_undo
  rw [if_pos (show S.2.2.1 4 = 0 from hh.2.1)]
  rfl
theorem s_undo {A B : AG} {hs : List AG} {t : List Nat} {S : QS} (h : RS A (hs ++ [B]) t S) : ∃ S', o_undo S = some (nI hs.length, S') ∧ RS B hs t S' := by
  obtain ⟨hg, ⟨hc, k4, hL, ℓ, q3, q4, q5⟩, ht⟩ := id h
  have hlen : (hs ++ [B]).length = hs.length + 1 := by rw [List.length_append]; rfl
  rw [hlen] at hc k4
  obtain ⟨l1, l2⟩ := q3 hs.length (by omega)
  have d0 : ¬ nI (hs.length + 1) = 0 := by rw [neq0 (by omega)]; omega
  have d1 : ¬ nI (hs.length + 1) ≤ 0 := by rw [nle0 (by omega)]; omega
  obtain ⟨f', s', n', e1, e2⟩ := c_copyFrom (S.2.2.1 0) (S.2.2.1 1) (S.1 0) (S.1 1) (S.1 2) (S.2.2.2.2.1 (ℓ hs.length)).1 (S.2.2.2.2.1 (ℓ hs.length)).2.1 (S.2.2.2.2.1 (ℓ hs.length)).2.2.1 (S.2.2.2.2.1 (ℓ hs.length)).2.2.2.1 (S.2.2.2.2.1 (ℓ hs.length)).2.2.2.2
  have hB := q5 hs.length B (by rw [List.getElem?_append_right (Nat.le_refl _), Nat.sub_self]; rfl)
  refine ⟨((upf (upf (upf S.1 0 f') 1 s') 2 n'), S.2.1, upf (upf (upf S.2.2.1 0 (S.2.2.2.2.1 (ℓ hs.length)).1) 1 (S.2.2.2.2.1 (ℓ hs.length)).2.1) 4 (nI hs.length), S.2.2.2.1, S.2.2.2.2.1, S.2.2.2.2.2), ?_, Rg_congr hB e2, ⟨by omega, rfl, hL, ℓ, q3, q4, fun k D hD => q5 k D ?_⟩, ht⟩
  · unfold o_undo f_X8_undo f_X4_restore
    rw [k4, if_neg d0, if_neg d1, nsub (by omega), show hs.length + 1 - 1 = hs.length by omega, ginb (by omega) (by omega), ncl (by omega), l1, bd_s, gltq l2, bd_t e1, bd_s]
    rfl
  · rw [List.getElem?_append_left (List.getElem?_eq_some_iff.mp hD).1]; exact hD
theorem s_append {A : AG} {hs : List AG} {t : List Nat} {S : QS} (h : RS A hs t S) {c : Nat} (hc : c < 256) (ht60 : t.length < 60) : ∃ S', o_appendCharacter (nI c) S = some (nI (t.length + 1), S') ∧ RS A hs (t ++ [c]) S' := by
  obtain ⟨hg, hh, t1, t2, t3⟩ := h
  have c1 : ¬ nI c < 0 := by rw [← nI_0, nlt (by omega) (by omega)]; omega
  have c2 : nI c ≤ nI 255 := by rw [nle (by omega) (by omega)]; omega
  have c3 : nI t.length < nI 60 := by rw [nlt (by omega) (by omega)]; exact ht60
  have d2 : ¬ nI t.length = nI 60 := by rw [neq (by omega) (by omega)]; omega
  have d3 : ¬ nI 60 ≤ nI t.length := by rw [nle (by omega) (by omega)]; omega
  have hlen : (t ++ [c]).length = t.length + 1 := by rw [List.length_append]; rfl
  refine ⟨(upf S.1 6 (upd (S.1 6) t.length (nI c)), S.2.1, upf S.2.2.1 5 (nI (t.length + 1)), S.2.2.2.1, S.2.2.2.2.1, S.2.2.2.2.2), ?_, hg, hh, by omega, ?_, fun k hk => ?_⟩
  · unfold o_appendCharacter f_X8_appendCharacter f_X1_append
    rw [if_neg c1, if_pos c2, t2, if_pos c3]
    simp only [if_neg d2, if_neg d3, ginb ht60 (show 60 < 2 ^ 31 by omega), nI_add, ncl (show t.length < 2 ^ 31 by omega), bd_s]
    rfl
  · show nI (t.length + 1) = nI (t ++ [c]).length
    rw [hlen]
  · show upd (S.1 6) t.length (nI c) k = nI ((t ++ [c]).getD k 0)
    rw [upd_at, List.getD_eq_getElem?_getD]
    by_cases h6 : k = t.length
    · subst h6
      rw [if_pos rfl, List.getElem?_append_right (Nat.le_refl _), Nat.sub_self]; rfl
    · have hk' : k < t.length := by omega
      rw [if_neg h6, List.getElem?_append_left hk', ← List.getD_eq_getElem?_getD]
      exact t3 k hk'
theorem s_append_no {A : AG} {hs : List AG} {t : List Nat} {S : QS} (h : RS A hs t S) {p : Int32} (hp : p < 0 ∨ ¬ p ≤ nI 255) : ∃ S', o_appendCharacter p S = some (nI 4294967295, S') ∧ RS A hs t S' := by
  refine ⟨(upf S.1 6 (S.1 6), S.2.1, upf S.2.2.1 5 (S.2.2.1 5), S.2.2.2.1, S.2.2.2.2.1, S.2.2.2.2.2), ?_, h.1, h.2.1, h.2.2⟩
  unfold o_appendCharacter f_X8_appendCharacter
  by_cases c1 : p < 0
  · rw [if_pos c1]; rfl
  · rw [if_neg c1, if_neg (hp.resolve_left c1)]; rfl
theorem s_append_full {A : AG} {hs : List AG} {t : List Nat} {S : QS} (h : RS A hs t S) {c : Nat} (hc : c < 256) (ht60 : t.length = 60) : ∃ S', o_appendCharacter (nI c) S = some (nI 4294967293, S') ∧ RS A hs t S' := by
  obtain ⟨hg, hh, t1, t2, t3⟩ := id h
  have c1 : ¬ nI c < 0 := by rw [← nI_0, nlt (by omega) (by omega)]; omega
  have c2 : nI c ≤ nI 255 := by rw [nle (by omega) (by omega)]; omega
  have c3 : ¬ nI t.length < nI 60 := by rw [nlt (by omega) (by omega)]; omega
  refine ⟨(upf S.1 6 (S.1 6), S.2.1, upf S.2.2.1 5 (nI t.length), S.2.2.2.1, S.2.2.2.2.1, S.2.2.2.2.2), ?_, hg, hh, t1, rfl, t3⟩
  unfold o_appendCharacter f_X8_appendCharacter
  rw [if_neg c1, if_pos c2, t2, if_neg c3]
  rfl
theorem s_clear {A : AG} {hs : List AG} {t : List Nat} {S : QS} (h : RS A hs t S) : ∃ S', o_clearText S = some (nI t.length, S') ∧ RS A hs [] S' := by
  obtain ⟨hg, hh, t1, t2, t3⟩ := h
  refine ⟨(S.1, S.2.1, upf S.2.2.1 5 (nI 0), S.2.2.2.1, S.2.2.2.2.1, S.2.2.2.2.2), ?_, hg, hh, by decide, rfl, fun k hk => absurd hk (Nat.not_lt_zero k)⟩
  unfold o_clearText f_X8_clearText
  rw [t2]
  rfl
