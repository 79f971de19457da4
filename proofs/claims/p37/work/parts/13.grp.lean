/-! the saved graphs: eight graphs at addresses by number, and the order in which the row of references holds them -/
abbrev GC : Type := Int32 × Int32 × (Nat → Int32) × (Nat → Int32) × (Nat → Int32)
def sv (L : List Nat) : Nat → Option Nat := fun i => L[i]?
def upC (C : Nat → GC) (j : Nat) (x : GC) : Nat → GC := fun i => bif i == j then x else C i
def lenq (L : List Nat) : Bool := decide (L.length = 8)
def ltq (a b : Nat) : Bool := decide (a < b)
theorem ltq_lt {a b : Nat} (h : ltq a b = true) : a < b := of_decide_eq_true h
def neq' (a b : Nat) : Bool := decide (¬ a = b)
theorem neq_ne {a b : Nat} (h : neq' a b = true) : ¬ a = b := of_decide_eq_true h
theorem lt8 {j : Nat} (h : j < 8) : j = 0 ∨ j = 1 ∨ j = 2 ∨ j = 3 ∨ j = 4 ∨ j = 5 ∨ j = 6 ∨ j = 7 := by omega
abbrev grp1 (g : GG) (ga fa sa na : Nat → Nat) (C : Nat → GC) (i : Nat) : va_W := [ob (ga i) 2 [.int (C i).1, .int (C i).2.1, .ref (fa i), .ref (sa i), .ref (na i)], aI g (fa i) 9 (C i).2.2.1, aI g (sa i) 9 (C i).2.2.2.1, aI g (na i) 9 (C i).2.2.2.2]
abbrev grp (g : GG) (hs : Nat) (ga fa sa na : Nat → Nat) (L : List Nat) (C : Nat → GC) : va_W := aG g hs 8 (sv (L.map ga)) :: (grp1 g ga fa sa na C 0 ++ (grp1 g ga fa sa na C 1 ++ (grp1 g ga fa sa na C 2 ++ (grp1 g ga fa sa na C 3 ++ (grp1 g ga fa sa na C 4 ++ (grp1 g ga fa sa na C 5 ++ (grp1 g ga fa sa na C 6 ++ grp1 g ga fa sa na C 7)))))))
/-! rows of rows: sixty-four rows of thirteen -/
def mref (r : Nat → Nat) : Nat → Option Nat := fun i => if i < 64 then some (r i) else none
def updM (M : Nat → Nat → Int64) (i : Nat) (f : Nat → Int64) : Nat → Nat → Int64 := fun k => if k = i then f else M k
def mrows (g : GG) (r : Nat → Nat) (M : Nat → Nat → Int64) : va_W := (List.range 64).map (fun i => aJ g (r i) 13 (M i))
theorem mrows_len {g : GG} {r : Nat → Nat} {M : Nat → Nat → Int64} : (mrows g r M).length = 64 := by unfold mrows; rw [List.length_map, List.length_range]
theorem mrows_at {g : GG} {r : Nat → Nat} {M : Nat → Nat → Int64} {P : va_W} {k i : Nat} (hk : P.length = k) (h : i < 64) : (P ++ mrows g r M)[k + i]? = some (aJ g (r i) 13 (M i)) := by
  rw [List.getElem?_append_right (by omega), show k + i - P.length = i by omega]
  unfold mrows
  rw [List.getElem?_map, List.getElem?_range h]
  rfl
theorem mrows_set {g : GG} {r : Nat → Nat} {M : Nat → Nat → Int64} {P : va_W} {k i : Nat} {f : Nat → Int64} (hk : P.length = k) (h : i < 64) : (P ++ mrows g r M).set (k + i) (aJ g (r i) 13 f) = P ++ mrows g r (updM M i f) := by
  rw [List.set_append_right _ _ (by omega), show k + i - P.length = i by omega]
  congr 1
  apply List.ext_getElem?
  intro q
  unfold mrows
  by_cases hq : i = q
  · subst hq
    rw [List.getElem?_set_self (by rw [List.length_map, List.length_range]; exact h), List.getElem?_map, List.getElem?_range h]
    simp [updM]
  · rw [List.getElem?_set_ne hq, List.getElem?_map, List.getElem?_map]
    by_cases h2 : q < 64
    · rw [List.getElem?_range h2]
      simp [updM, Ne.symm hq, show ¬ q = i from fun e => hq e.symm]
    · rw [List.getElem?_eq_none (by rw [List.length_range]; omega)]
      rfl
theorem setAll_same : ∀ (is : List Nat) (ws wc : va_W), is.map (fun i => ws[i]?) = wc.map some → setAll ws is wc = ws := by
  intro is
  induction is with
  | nil => intro ws wc _; cases wc <;> rfl
  | cons i is ih =>
    intro ws wc h
    cases wc with
    | nil => cases h
    | cons q wc =>
      have h1 : ws[i]? = some q := (List.cons.inj h).1
      have h2 := (List.cons.inj h).2
      show setAll (ws.set i q) is wc = ws
      have e : ws.set i q = ws := by
        obtain ⟨hl, e⟩ := List.getElem?_eq_some_iff.mp h1
        rw [← e]; exact List.set_getElem_self hl
      rw [e]
      exact ih ws wc h2
theorem setAll_one : ∀ (is : List Nat) (ws wc : va_W) (j i : Nat) (q : Nat × va_E), is.map (fun i => ws[i]?) = wc.map some → va_nd is = true → is[j]? = some i → setAll ws is (wc.set j q) = ws.set i q := by
  intro is
  induction is with
  | nil => intro ws wc j i q _ _ h; cases h
  | cons a is ih =>
    intro ws wc j i q h hn hj
    cases wc with
    | nil => cases h
    | cons x wc =>
      have h1 : ws[a]? = some x := (List.cons.inj h).1
      have h2 := (List.cons.inj h).2
      simp only [va_nd, Bool.and_eq_true, decide_eq_true_eq] at hn
      cases j with
      | zero =>
        obtain rfl : a = i := Option.some.inj hj
        show setAll (ws.set a q) is wc = ws.set a q
        refine setAll_same is _ wc ?_
        rw [← h2]
        apply List.map_congr_left
        intro b hb
        exact List.getElem?_set_ne (fun (e : a = b) => hn.1 (by rw [e]; exact hb))
      | succ j =>
        show setAll (ws.set a x) is (wc.set j q) = ws.set i q
        have e : ws.set a x = ws := by
          obtain ⟨hl, e⟩ := List.getElem?_eq_some_iff.mp h1
          rw [← e]; exact List.set_getElem_self hl
        rw [e]
        exact ih ws wc j i q h2 hn.2 hj
def blk (k n : Nat) : List Nat := List.range' k n
theorem grp_len {g : GG} {hs : Nat} {ga fa sa na : Nat → Nat} {L : List Nat} {C : Nat → GC} : (grp g hs ga fa sa na L C).length = 33 := rfl
theorem grp_f {g : GG} {hs : Nat} {ga fa sa na : Nat → Nat} {L L' : List Nat} {C C' : Nat → GC} : (grp g hs ga fa sa na L C).map (·.1) = (grp g hs ga fa sa na L' C').map (·.1) := rfl
theorem mrows_f {g : GG} {r : Nat → Nat} {M M' : Nat → Nat → Int64} : (mrows g r M).map (·.1) = (mrows g r M').map (·.1) := by
  unfold mrows
  rw [List.map_map, List.map_map]
  rfl
theorem blk_at : ∀ (G P : va_W) (k : Nat), P.length = k → (List.range' k G.length).map (fun i => (P ++ G)[i]?) = G.map some := by
  intro G
  induction G with
  | nil => intro P k _; rfl
  | cons x G ih =>
    intro P k hk
    rw [List.length_cons, List.range'_succ, List.map_cons, List.map_cons]
    have h := ih (P ++ [x]) (k + 1) (by rw [List.length_append, hk]; rfl)
    rw [List.append_assoc] at h
    congr 1
    · rw [List.getElem?_append_right (by omega), show k - P.length = 0 by omega]; rfl
theorem blk_C {P Pc G : va_W} {I : List Nat} {k n : Nat} (hk : P.length = k) (hn : G.length = n) (h : I.map (fun i => P[i]?) = Pc.map some) : (I ++ blk k n).map (fun i => (P ++ G)[i]?) = (Pc ++ G).map some := by
  rw [List.map_append, List.map_append]
  congr 1
  · rw [← h]
    apply List.map_congr_left
    intro i hi
    have : P[i]? ∈ I.map (fun i => P[i]?) := List.mem_map.mpr ⟨i, hi, rfl⟩
    rw [h] at this
    obtain ⟨q, -, hq⟩ := List.mem_map.mp this
    exact List.getElem?_append_left (List.getElem?_eq_some_iff.mp hq.symm).1
  · rw [← hn]; exact blk_at G P k hk
theorem setAll_app : ∀ (I J : List Nat) (ws u v : va_W), I.length = u.length → setAll ws (I ++ J) (u ++ v) = setAll (setAll ws I u) J v := by
  intro I
  induction I with
  | nil => intro J ws u v h; cases u with
    | nil => rfl
    | cons _ _ => cases h
  | cons i I ih =>
    intro J ws u v h
    cases u with
    | nil => cases h
    | cons x u => exact ih J (ws.set i x) u v (Nat.succ.inj h)
theorem setAll_left : ∀ (I : List Nat) (P G u : va_W), (∀ i ∈ I, i < P.length) → setAll (P ++ G) I u = setAll P I u ++ G := by
  intro I
  induction I with
  | nil => intro P G u _; cases u <;> rfl
  | cons i I ih =>
    intro P G u h
    cases u with
    | nil => rfl
    | cons x u =>
      show setAll ((P ++ G).set i x) I u = setAll (P.set i x) I u ++ G
      rw [List.set_append_left _ _ (h i List.mem_cons_self)]
      exact ih (P.set i x) G u (fun j hj => by rw [List.length_set]; exact h j (List.mem_cons_of_mem _ hj))
theorem setAll_blk : ∀ (G G2 P : va_W) (k : Nat), P.length = k → G.length = G2.length → setAll (P ++ G) (List.range' k G.length) G2 = P ++ G2 := by
  intro G
  induction G with
  | nil => intro G2 P k _ h; cases G2 with
    | nil => rfl
    | cons _ _ => cases h
  | cons x G ih =>
    intro G2 P k hk h
    cases G2 with
    | nil => cases h
    | cons y G2 =>
      rw [List.length_cons, List.range'_succ]
      show setAll ((P ++ x :: G).set k y) (List.range' (k + 1) G.length) G2 = P ++ y :: G2
      rw [List.set_append_right _ _ (by omega), show k - P.length = 0 by omega]
      have e := ih G2 (P ++ [y]) (k + 1) (by rw [List.length_append, hk]; rfl) (Nat.succ.inj h)
      rw [List.append_assoc, List.append_assoc] at e
      exact e
theorem setAll_length : ∀ (I : List Nat) (P u : va_W), (setAll P I u).length = P.length := by
  intro I
  induction I with
  | nil => intro P u; cases u <;> rfl
  | cons i I ih => intro P u; cases u with
    | nil => rfl
    | cons x u => exact (ih (P.set i x) u).trans (List.length_set ..)
theorem blk_S {P P2 Pc2 G G2 : va_W} {I : List Nat} {k n : Nat} (hk : P.length = k) (hn : G.length = n) (hn2 : G2.length = n) (hl : I.length = Pc2.length) (hI : (I.all (fun i => decide (i < k))) = true) (h : setAll P I Pc2 = P2) : setAll (P ++ G) (I ++ blk k n) (Pc2 ++ G2) = P2 ++ G2 := by
  rw [setAll_app _ _ _ _ _ hl, setAll_left _ _ _ _ (fun i hi => by rw [hk]; exact of_decide_eq_true (List.all_eq_true.mp hI i hi)), h]
  unfold blk
  rw [← hn]
  exact setAll_blk G G2 P2 k (by rw [← h, setAll_length]; exact hk) (hn.trans hn2.symm)
theorem blk_f {Pc Pc2 G G2 : va_W} (h : Pc.map (·.1) = Pc2.map (·.1)) (hg : G.map (·.1) = G2.map (·.1)) : (Pc ++ G).map (·.1) = (Pc2 ++ G2).map (·.1) := by rw [List.map_append, List.map_append, h, hg]
theorem nd_range : ∀ (n k : Nat), va_nd (List.range' k n) = true := by
  intro n
  induction n with
  | zero => intro k; rfl
  | succ n ih =>
    intro k
    rw [List.range'_succ]
    simp only [va_nd, Bool.and_eq_true, decide_eq_true_eq]
    exact ⟨fun h => by have := List.mem_range'_1.mp h; omega, ih (k + 1)⟩
theorem blk_nd : ∀ {I : List Nat} {k n : Nat}, va_nd I = true → (I.all (fun i => decide (i < k))) = true → va_nd (I ++ blk k n) = true := by
  intro I
  induction I with
  | nil => intro k n _ _; exact nd_range n k
  | cons i I ih =>
    intro k n h h2
    simp only [va_nd, Bool.and_eq_true, decide_eq_true_eq] at h
    simp only [List.all_cons, Bool.and_eq_true, decide_eq_true_eq] at h2
    show va_nd (i :: (I ++ blk k n)) = true
    simp only [va_nd, Bool.and_eq_true, decide_eq_true_eq]
    refine ⟨fun hm => ?_, ih h.2 h2.2⟩
    rcases List.mem_append.mp hm with hm | hm
    · exact h.1 hm
    · have := (List.mem_range'_1.mp hm).1; omega
section WGRP
variable {g : GG} {p : Program} {l : Launch} {e : Env} {R : Room} {s : State} {m : MethodId} {args : Array Value} {below : List Frame} {meth : Method} {c : Code} {H : Heap} {locs : List Loc} {cells slots : Nat} {Q : State → Prop}
variable {cc : ByteArray} {own : String} {nL : Nat} {pc : Nat} {ls : Array Slot} {rest : List Value} {A : Nat → Prop} {a : Nat} {ws : va_W}
theorem w_aldG (cx : Cx g p s m args c cc own nL) (hP : va_P (gD g) vwCl ws H) (q0 : Nat) {L : List Nat} {ga : Nat → Nat} (he : ws[q0]? = some (aG g a 8 (sv (L.map ga)))) {i : Int32} (hin : inb i 8 = true) {j : Nat} (hj : L[i.toNatClampNeg]? = some j) (hdg : decode cc pc = .ok (.aaload, 1))
    (kk : W p l e R s m args below meth c H locs cells slots Q (F0 m (pc + 1) ls (.ref (ga j) :: rest))) : W p l e R s m args below meth c H locs cells slots Q (F0 m pc ls (.int i :: .ref a :: rest)) := by
  refine va_aldq cx.1 cx.2.1 cx.2.2.2.2.2.1 hP q0 2 he rfl (inb_in hin) hdg ?_
  have e : va_rf (sv (L.map ga) i.toNatClampNeg) = .ref (ga j) := by
    show va_rf ((L.map ga)[i.toNatClampNeg]?) = _
    rw [List.getElem?_map, hj]; rfl
  rw [e]; exact kk
theorem w_astG (cx : Cx g p s m args c cc own nL) (hP : va_P (gD g) vwCl ws H) (hD : va_D A ws) (hS : va_S A s.heap H locs) (q0 : Nat) {L : List Nat} {ga : Nat → Nat} (he : ws[q0]? = some (aG g a 8 (sv (L.map ga)))) (hL : lenq L = true) {i : Int32} (hin : inb i 8 = true) {j : Nat} (hv : ∃ (qk : Nat) (vs : List Value), ws[qk]? = some (ga j, .inr (2, vs))) (hdg : decode cc pc = .ok (.aastore, 1)) (ws2 : va_W) (hw : ws.set q0 (aG g a 8 (sv ((L.set i.toNatClampNeg j).map ga))) = ws2)
    (kk : ∀ (H1 : Heap) (locs1 : List Loc), va_P (gD g) vwCl ws2 H1 → va_D A ws2 → va_S A s.heap H1 locs1 → W p l e R s m args below meth c H1 locs1 cells slots Q (F0 m (pc + 1) ls rest)) : W p l e R s m args below meth c H locs cells slots Q (F0 m pc ls (.ref (ga j) :: .int i :: .ref a :: rest)) := by
  obtain ⟨qk, vs, hq⟩ := hv
  have hlt : i.toNatClampNeg < L.length := by
    rw [show L.length = 8 from of_decide_eq_true hL]
    exact Nat.not_le.mp fun q => (inb_in hin) (Or.inr q)
  have e : va_up (sv (L.map ga)) i.toNatClampNeg (some (ga j)) = sv ((L.set i.toNatClampNeg j).map ga) := by
    funext k
    unfold va_up sv
    rw [List.getElem?_map, List.getElem?_map]
    by_cases hk : k = i.toNatClampNeg
    · subst hk; rw [if_pos rfl, List.getElem?_set_self hlt]; rfl
    · rw [if_neg hk, List.getElem?_set_ne (Ne.symm hk)]
  refine va_astq (r := (RX2, TX2, 5)) cx.1 cx.2.1 cx.2.2.2.2.2.1 hP hD hS q0 2 qk 2 he rfl hq rfl (inb_in hin) hdg (fun H1 locs1 a b d => ?_)
  rw [e] at a b
  exact kk H1 locs1 (hw ▸ a) (hw ▸ b) d
theorem w_aldA (cx : Cx g p s m args c cc own nL) (hP : va_P (gD g) vwCl ws H) (q0 : Nat) {n : Nat} {f : Nat → Option Nat} (he : ws[q0]? = some (aM g a n f)) {i : Int32} (hin : vp_in i n) (hdg : decode cc pc = .ok (.aaload, 1))
    (kk : W p l e R s m args below meth c H locs cells slots Q (F0 m (pc + 1) ls (va_rf (f i.toNatClampNeg) :: rest))) : W p l e R s m args below meth c H locs cells slots Q (F0 m pc ls (.int i :: .ref a :: rest)) := by
  have hlt : i.toNatClampNeg < n := Nat.not_le.mp fun q => hin (Or.inr q)
  exact W.aald (v := va_rf (f i.toNatClampNeg)) (ty := .array .long) cx.1 cx.2.1 (hP q0 _ he) ((cx.2.2.2.2.2.1.2 3 _ rfl).1 n (fun j => va_rf (f j))) rfl (fun q => by cases q) (by show ¬ (i < 0 ∨ (arrV _ _ _).slots.size ≤ _); rw [arrV_size]; exact hin) (by show (arrV _ _ _).slots[_]? = _; rw [arrV_read _ _ hlt]) rfl rfl hdg kk
theorem w_aldM (cx : Cx g p s m args c cc own nL) (hP : va_P (gD g) vwCl ws H) (q0 : Nat) {r : Nat → Nat} (he : ws[q0]? = some (aM g a 64 (mref r))) {i : Int32} (hin : inb i 64 = true) (hdg : decode cc pc = .ok (.aaload, 1))
    (kk : W p l e R s m args below meth c H locs cells slots Q (F0 m (pc + 1) ls (.ref (r i.toNatClampNeg) :: rest))) : W p l e R s m args below meth c H locs cells slots Q (F0 m pc ls (.int i :: .ref a :: rest)) := by
  have hin' := inb_in hin
  have hlt : i.toNatClampNeg < 64 := Nat.not_le.mp fun q => hin' (Or.inr q)
  refine w_aldA cx hP q0 he hin' hdg ?_
  have e : va_rf (mref r i.toNatClampNeg) = .ref (r i.toNatClampNeg) := by unfold mref; rw [if_pos hlt]; rfl
  rw [e]; exact kk
theorem w_callSM (cx : Cx g p s m args c cc own nL) {P : va_W} {r : Nat → Nat} {M : Nat → Nat → Int64} (hP : va_P (gD g) vwCl (P ++ mrows g r M) H) (hD : va_D A (P ++ mrows g r M)) (hS : va_S A s.heap H locs) (hA : ∀ q, s.heap.size ≤ q → A q) {y : MethodName} {cc' : ByteArray} {n' fr lo : Nat} {ret : Option FieldType} {As : List Value} {wc wc2 : va_W} {o : Option Value} (hM : CT g l y cc' n' ret fr lo As wc wc2 o)
    (isC : List Nat) (hC : isC.map (fun i => (P ++ mrows g r M)[i]?) = wc.map some) (hnd : va_nd isC = true) (hf : wc.map (·.1) = wc2.map (·.1)) (j0 k0 i0 : Nat) {f : Nat → Int64} (hk : P.length = k0) (hi : i0 < 64) (hj : isC[j0]? = some (k0 + i0)) (hw : wc2 = wc.set j0 (aJ g (r i0) 13 f)) {k idx : Nat} (hy : yq y k)
    (m1 : Cond.methodLink own idx y ∈ tbG) (m2 : Cond.static y ∈ tbG) (m4 : Cond.initialized y.cls ∈ tbG) (m5 : Cond.code y cc' n' ret ∈ tbG) (hR : fr + 1 ≤ R.frames ∧ 8 + (n' + 11) + lo ≤ R.locals) (hn : As.length = k) {st rs : List Value} (hst : st = As.reverse ++ rest) (hls : ls.size = nL) (hW : (rest.map fun v => v.category).sum ≤ 8) (hdg : decode cc pc = .ok (.invokestatic idx, 3)) (hcs : cells ≤ R.cells ∧ slots ≤ R.slots) (hrs : o.toList ++ rest = rs)
    (kk : ∀ (H1 : Heap) (locs1 : List Loc), va_P (gD g) vwCl (P ++ mrows g r (updM M i0 f)) H1 → va_D A (P ++ mrows g r (updM M i0 f)) → va_S A s.heap H1 locs1 → W p l e R s m args below meth c H1 locs1 cells slots Q (F0 m (pc + 3) ls rs)) : W p l e R s m args below meth c H locs cells slots Q (F0 m pc ls st) := by
  exact w_callS cx hP hD hS hA hM isC hC hnd hf (P ++ mrows g r (updM M i0 f)) (by subst hw; exact (setAll_one isC _ wc j0 _ _ hC hnd hj).trans (mrows_set hk hi)) hy m1 m2 m4 m5 hR hn hst hls hW hdg hcs hrs kk
end WGRP
