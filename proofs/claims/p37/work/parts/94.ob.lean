/-! the whole object as one bundle; calls on it -/
theorem pre_C {P G Pc : va_W} {I : List Nat} (h : I.map (fun i => P[i]?) = Pc.map some) : I.map (fun i => (P ++ G)[i]?) = Pc.map some := by
  rw [← h]
  apply List.map_congr_left
  intro i hi
  have : P[i]? ∈ I.map (fun i => P[i]?) := List.mem_map.mpr ⟨i, hi, rfl⟩
  rw [h] at this
  obtain ⟨q, -, hq⟩ := List.mem_map.mp this
  exact List.getElem?_append_left (List.getElem?_eq_some_iff.mp hq.symm).1
theorem pre_S {P P2 G u : va_W} {I : List Nat} {k : Nat} (hk : P.length = k) (hI : (I.all (fun i => decide (i < k))) = true) (h : setAll P I u = P2) : setAll (P ++ G) I u = P2 ++ G := by
  rw [setAll_left _ _ _ _ (fun i hi => by rw [hk]; exact of_decide_eq_true (List.all_eq_true.mp hI i hi)), h]
theorem mid_C {P Pc G S : va_W} {I : List Nat} {k n : Nat} (hk : P.length = k) (hn : G.length = n) (h : I.map (fun i => P[i]?) = Pc.map some) : (I ++ blk k n).map (fun i => (P ++ (G ++ S))[i]?) = (Pc ++ G).map some := by
  rw [← List.append_assoc]
  exact pre_C (blk_C hk hn h)
theorem mid_S {P P2 Pc2 G G2 S : va_W} {I : List Nat} {k n : Nat} (hk : P.length = k) (hn : G.length = n) (hn2 : G2.length = n) (hl : I.length = Pc2.length) (hI : (I.all (fun i => decide (i < k))) = true) (h : setAll P I Pc2 = P2) : setAll (P ++ (G ++ S)) (I ++ blk k n) (Pc2 ++ G2) = P2 ++ (G2 ++ S) := by
  rw [← List.append_assoc, ← List.append_assoc, setAll_left _ _ _ _ (fun i hi => ?_), blk_S hk hn hn2 hl hI h]
  rw [List.length_append, hk, hn]
  rcases List.mem_append.mp hi with h1 | h1
  · have := of_decide_eq_true (List.all_eq_true.mp hI i h1); omega
  · have := (List.mem_range'_1.mp h1); omega
theorem end_C {P Pc G S : va_W} {I : List Nat} {k n m : Nat} (hk : P.length = k) (hn : G.length = n) (hm : S.length = m) (h : I.map (fun i => P[i]?) = Pc.map some) : (I ++ blk (k + n) m).map (fun i => (P ++ (G ++ S))[i]?) = (Pc ++ S).map some := by
  rw [← List.append_assoc]
  exact blk_C (by rw [List.length_append, hk, hn]) hm (pre_C h)
theorem end_S {P P2 Pc2 G S S2 : va_W} {I : List Nat} {k n m : Nat} (hk : P.length = k) (hn : G.length = n) (hm : S.length = m) (hm2 : S2.length = m) (hl : I.length = Pc2.length) (hI : (I.all (fun i => decide (i < k))) = true) (h : setAll P I Pc2 = P2) : setAll (P ++ (G ++ S)) (I ++ blk (k + n) m) (Pc2 ++ S2) = P2 ++ (G ++ S2) := by
  rw [← List.append_assoc, ← List.append_assoc]
  have hI2 : (I.all (fun i => decide (i < k + n))) = true := List.all_eq_true.mpr fun i hi => decide_eq_true (by have := of_decide_eq_true (List.all_eq_true.mp hI i hi); omega)
  exact blk_S (by rw [List.length_append, hk, hn]) hm hm2 hl hI2 (pre_S hk hI h)
theorem cmp_eq {x y : Int64} (h : x = y) : lg_cmp x y = 0 := by subst h; simp [lg_cmp]
abbrev QS : Type := (Nat → Nat → Int32) × (Nat → Nat → Int64) × (Nat → Int32) × List Nat × (Nat → GC) × (Nat → Nat → Int64)
abbrev PO (g : GG) (hx : Nat) (α : Nat → Nat) (S : QS) : va_W := [ob hx 8 [.ref (α 0), .ref (α 4), .ref (α 8), .ref (α 9), .ref (α 11), .ref (α 14), .ref (α 21), .ref (α 23), .ref (α 26)], ob (α 0) 2 [.int (S.2.2.1 0), .int (S.2.2.1 1), .ref (α 1), .ref (α 2), .ref (α 3)], aI g (α 1) 9 (S.1 0), aI g (α 2) 9 (S.1 1), aI g (α 3) 9 (S.1 2), ob (α 4) 2 [.int (S.2.2.1 2), .int (S.2.2.1 3), .ref (α 5), .ref (α 6), .ref (α 7)], aI g (α 5) 9 (S.1 3), aI g (α 6) 9 (S.1 4), aI g (α 7) 9 (S.1 5), ob (α 8) 4 [.int (S.2.2.1 4), .ref (α 29)], ob (α 9) 1 [.int (S.2.2.1 5), .ref (α 10), .int (S.2.2.1 6), .int (S.2.2.1 7), .int (S.2.2.1 8), .int (S.2.2.1 9)], aI g (α 10) 60 (S.1 6), ob (α 11) 3 [.ref (α 12), .ref (α 13)], aI g (α 12) 6 (S.1 7), aI g (α 13) 6 (S.1 8), ob (α 14) 7 [.ref (α 15), .ref (α 16), .ref (α 17), .ref (α 18), .ref (α 19), .ref (α 20)], aJ g (α 15) 19 (S.2.1 0), aJ g (α 16) 19 (S.2.1 1), aJ g (α 17) 19 (S.2.1 2), aJ g (α 18) 19 (S.2.1 3), aJ g (α 19) 18 (S.2.1 4), aJ g (α 20) 6 (S.2.1 5), ob (α 21) 5 [.ref (α 22), .int (S.2.2.1 10)], aI g (α 22) 5 (S.1 9), ob (α 23) 0 [.ref (α 24), .ref (α 25)], aJ g (α 24) 19 (S.2.1 6), aJ g (α 25) 19 (S.2.1 7), ob (α 26) 6 [.ref (α 27), .ref (α 28)], aJ g (α 27) 19 (S.2.1 8), aM g (α 28) 64 (mref (fun i => α (i + 62)))]
abbrev WG (g : GG) (α : Nat → Nat) (L : List Nat) (C : Nat → GC) : va_W := grp g (α 29) (fun i => α (30 + 4 * i)) (fun i => α (31 + 4 * i)) (fun i => α (32 + 4 * i)) (fun i => α (33 + 4 * i)) L C
abbrev WR (g : GG) (α : Nat → Nat) (Mm : Nat → Nat → Int64) : va_W := mrows g (fun i => α (i + 62)) Mm
abbrev OB (g : GG) (hx : Nat) (α : Nat → Nat) (S : QS) : va_W := PO g hx α S ++ (WG g α (S.2.2.2.1) (S.2.2.2.2.1) ++ WR g α (S.2.2.2.2.2))
theorem ob_len {g : GG} {hx : Nat} {α : Nat → Nat} {S : QS} : (OB g hx α S).length = 127 := by
  show (PO g hx α S ++ (WG g α S.2.2.2.1 S.2.2.2.2.1 ++ WR g α S.2.2.2.2.2)).length = 127
  rw [List.length_append, List.length_append, mrows_len]
  rfl
theorem ob_f {g : GG} {hx : Nat} {α : Nat → Nat} {S S2 : QS} : (OB g hx α S).map (·.1) = (OB g hx α S2).map (·.1) :=
  blk_f (Pc := PO g hx α S) (Pc2 := PO g hx α S2) rfl (blk_f grp_f mrows_f)
theorem obx_f {g : GG} {hx : Nat} {α : Nat → Nat} {S S2 : QS} {ex ex2 : va_W} (h : ex.map (·.1) = ex2.map (·.1)) : (OB g hx α S ++ ex).map (·.1) = (OB g hx α S2 ++ ex2).map (·.1) := blk_f ob_f h
theorem obx_len {g : GG} {hx : Nat} {α : Nat → Nat} {S : QS} {ex : va_W} {n : Nat} (h : ex.length + 127 = n) : (OB g hx α S ++ ex).length = n := by
  rw [List.length_append, ob_len]; omega
theorem al_C {ws : va_W} {n : Nat} (h : ws.length = n) : (blk 0 n).map (fun i => ws[i]?) = ws.map some := by
  have := blk_at ws [] 0 rfl
  rw [h] at this
  exact this
theorem al_S {ws wc2 : va_W} {n : Nat} (h : ws.length = n) (h2 : wc2.length = n) : setAll ws (blk 0 n) wc2 = wc2 := by
  have := setAll_blk ws wc2 [] 0 rfl (h.trans h2.symm)
  rw [h] at this
  exact this
theorem pf_C {g : GG} {hx : Nat} {α : Nat → Nat} {S : QS} {ex : va_W} : (blk 0 127).map (fun i => (OB g hx α S ++ ex)[i]?) = (OB g hx α S ++ []).map some := by
  rw [List.append_nil]
  exact pre_C (al_C ob_len)
theorem pf_S {g : GG} {hx : Nat} {α : Nat → Nat} {S S2 : QS} {ex : va_W} : setAll (OB g hx α S ++ ex) (blk 0 127) (OB g hx α S2 ++ []) = OB g hx α S2 ++ ex := by
  rw [List.append_nil]
  exact pre_S (k := 127) ob_len (by decide) (al_S ob_len ob_len)
theorem pf2_C {g : GG} {hx : Nat} {α : Nat → Nat} {S : QS} {x : Nat × va_E} {ex : va_W} : (blk 0 128).map (fun i => (OB g hx α S ++ x :: ex)[i]?) = (OB g hx α S ++ [x]).map some := by
  rw [show OB g hx α S ++ x :: ex = (OB g hx α S ++ [x]) ++ ex by rw [List.append_assoc]; rfl]
  exact pre_C (al_C (obx_len rfl))
theorem pf2_S {g : GG} {hx : Nat} {α : Nat → Nat} {S S2 : QS} {x x2 : Nat × va_E} {ex : va_W} : setAll (OB g hx α S ++ x :: ex) (blk 0 128) (OB g hx α S2 ++ [x2]) = OB g hx α S2 ++ x2 :: ex := by
  rw [show OB g hx α S ++ x :: ex = (OB g hx α S ++ [x]) ++ ex by rw [List.append_assoc]; rfl, show OB g hx α S2 ++ x2 :: ex = (OB g hx α S2 ++ [x2]) ++ ex by rw [List.append_assoc]; rfl]
  exact pre_S (k := 128) (obx_len rfl) (by decide) (al_S (obx_len rfl) (obx_len rfl))
theorem ob_nd : va_nd (blk 0 127) = true := nd_range _ _
theorem ob_at {g : GG} {hx : Nat} {α : Nat → Nat} {S : QS} {ex : va_W} {i : Nat} {q : Nat × va_E} (h : ex[i]? = some q) : (OB g hx α S ++ ex)[127 + i]? = some q := by
  rw [List.getElem?_append_right (by rw [ob_len]; omega), ob_len, Nat.add_sub_cancel_left]
  exact h
theorem ob_set {g : GG} {hx : Nat} {α : Nat → Nat} {S : QS} {ex : va_W} {i : Nat} {q : Nat × va_E} : (OB g hx α S ++ ex).set (127 + i) q = OB g hx α S ++ ex.set i q := by
  rw [List.set_append_right _ _ (by rw [ob_len]; omega), ob_len, Nat.add_sub_cancel_left]
/-- a contract over some cells is one over more -/
theorem ct_frame {g : GG} {l : Launch} {y : MethodName} {cc : ByteArray} {n fr lo : Nat} {ret : Option FieldType} {av : List Value} {wc wc2 ws ws2 : va_W} {o : Option Value} (hM : CT g l y cc n ret fr lo av wc wc2 o)
    (isC : List Nat) (hC : isC.map (fun i => ws[i]?) = wc.map some) (hnd : va_nd isC = true) (hf : wc.map (·.1) = wc2.map (·.1)) (hw2 : setAll ws isC wc2 = ws2) : CT g l y cc n ret fr lo av ws ws2 o := by
  intro sz p e ha hc hk s m args below hfr happ hPc _
  obtain ⟨hav, hsz, hP, hK, hD⟩ := hPc
  subst hsz
  have hsub : ∀ q, va_A wc s.heap.size q → va_A ws s.heap.size q := va_free hD.self va_S.rf (fun q h => Or.inr h) isC hC
  obtain ⟨k, oc, h1, h2, h3, ⟨⟨⟨hv, hp, hd⟩, hz, hkp⟩, L, hF, hL⟩⟩ := hM s.heap.size p e ha hc hk s m args below hfr happ ⟨hav, rfl, w_sub hP isC hC, hK, (hD.sub isC hnd hC)⟩ trivial
  obtain ⟨j1, j2⟩ := join_set hP hD.self isC hC hf hw2 (H1 := (stepsAlone p.tables e k s).heap) hkp hp
  exact ⟨k, oc, h1, h2, h3, ⟨⟨hv, j1, j2⟩, hz, fun q ha hb => hkp q ha (fun z => hb (hsub q z))⟩, L, hF, fun q hq => hsub _ (hL q hq)⟩
/-- a contract of a method that reads the script -/
def CX (g : GG) (l : Launch) (y : MethodName) (cc : ByteArray) (n : Nat) (ret : Option FieldType) (fr lo : Nat) (av : List Value) (ws ws2 : va_W) (o : Option Value) (b Lx : Nat) (xs : Nat → Int32) : Prop :=
  ∀ sz, Met l y (Wds y cc n ret) (rmv fr lo) (va_Pc av (fun U => Pre g ws sz U ∧ va_X b Lx xs U U.heap ∧ b < sz ∧ ¬ va_A ws sz b)) (Q1 o (fun t => va_P (gD g) vwCl ws2 t.heap ∧ va_D (va_A ws sz) ws2) (va_A ws sz)) 0 0 (va_A ws sz)
theorem PreX.blind {g : GG} {ws : va_W} {sz b Lx : Nat} {xs : Nat → Int32} {av : List Value} : FrameBlind (va_Pc av (fun U => Pre g ws sz U ∧ va_X b Lx xs U U.heap ∧ b < sz ∧ ¬ va_A ws sz b)) := fun a U fr mk q => ⟨q.1, ⟨q.2.1.1, q.2.1.2.1, q.2.1.2.2.1.blind, q.2.1.2.2.2⟩, va_X.moved (u := U) (U := U.calling fr mk a) (Vm.Alike.refl U.vm) q.2.2.1, q.2.2.2.1, q.2.2.2.2⟩
theorem cx_i {g : GG} {l : Launch} {y : MethodName} {cc : ByteArray} {n fr lo : Nat} {av : List Value} {ws ws2 : va_W} {v : Int32} {b Lx : Nat} {xs : Nat → Int32} (hy : plainName y.cls = true) (hn : (lg_sl av).length ≤ n)
    (body : ∀ (p : Program) (e : Env) (s : State) (m : MethodId) (args : Array Value) (below : List Frame) (meth : Method) (c : Code) (Q : State → Prop) (A : Nat → Prop) (ls : Array Slot), Cx g p s m args c cc y.cls n → va_P (gD g) vwCl ws s.heap → va_D A ws → (∀ q, s.heap.size ≤ q → A q) → va_X b Lx xs s s.heap → b < s.heap.size → ¬ A b → lv_has ls n (lv_args 0 av) →
      (∀ (pc : Nat) (H : Heap) (locs : List Loc) (ls : Array Slot), decode cc pc = .ok (.ireturn, 1) → va_P (gD g) vwCl ws2 H → va_D A ws2 → va_S A s.heap H locs → W p l e (rmv fr lo) s m args below meth c H locs 0 0 Q (F0 m pc ls [.int v])) →
      W p l e (rmv fr lo) s m args below meth c s.heap [] 0 0 Q (F0 m 0 ls [])) : CX g l y cc n (some .int) fr lo av ws ws2 (some (.int v)) b Lx xs := by
  intro sz
  refine Met.ofW (cc := cc) (maxL := n) (ret := (some .int)) hy rfl ?_
  intro p e s m args below meth c s₁ B hml hv
  obtain ⟨rfl, ⟨hsz, hP, hK, hD0⟩, hX, hbl, hbA⟩ := hv
  subst hsz
  have hts := atoms_spec (ws := Wds y cc n (some .int)) B.pre
  have hown : s.vm.findClass y.cls = some m.cls := findClass_of_methodNamed B.named
  have hlocks := B.notSynchronized
  have hr := B.returns
  have hl := lv_entry av (n := n) hn
  rw [lg_entry_eq]
  refine body p e s m av.toArray below meth c _ (va_A ws s.heap.size) _ ⟨B.exec, B.bytes, hml, hown, fun w hw => hts w (List.mem_cons_of_mem _ hw), hK⟩ hP hD0.self (fun q h => Or.inr h) hX hbl hbA hl ?_
  intro pc H locs ls hd hP2 hD2 hS
  exact W.iret B.exec B.bytes hr (fun t ht hW => ⟨⟨rfl, by rw [ht]; exact hP2, hD2⟩, hS.F ht⟩) hS.2.2 hd
theorem cx_z {g : GG} {l : Launch} {y : MethodName} {cc : ByteArray} {n fr lo : Nat} {av : List Value} {ws ws2 : va_W} {v : Int32} {b Lx : Nat} {xs : Nat → Int32} (hy : plainName y.cls = true) (hn : (lg_sl av).length ≤ n)
    (body : ∀ (p : Program) (e : Env) (s : State) (m : MethodId) (args : Array Value) (below : List Frame) (meth : Method) (c : Code) (Q : State → Prop) (A : Nat → Prop) (ls : Array Slot), Cx g p s m args c cc y.cls n → va_P (gD g) vwCl ws s.heap → va_D A ws → (∀ q, s.heap.size ≤ q → A q) → va_X b Lx xs s s.heap → b < s.heap.size → ¬ A b → lv_has ls n (lv_args 0 av) →
      (∀ (pc : Nat) (H : Heap) (locs : List Loc) (ls : Array Slot), decode cc pc = .ok (.ireturn, 1) → bq v = true → va_P (gD g) vwCl ws2 H → va_D A ws2 → va_S A s.heap H locs → W p l e (rmv fr lo) s m args below meth c H locs 0 0 Q (F0 m pc ls [.int v])) →
      W p l e (rmv fr lo) s m args below meth c s.heap [] 0 0 Q (F0 m 0 ls [])) : CX g l y cc n (some .boolean) fr lo av ws ws2 (some (.int v)) b Lx xs := by
  intro sz
  refine Met.ofW (cc := cc) (maxL := n) (ret := (some .boolean)) hy rfl ?_
  intro p e s m args below meth c s₁ B hml hv
  obtain ⟨rfl, ⟨hsz, hP, hK, hD0⟩, hX, hbl, hbA⟩ := hv
  subst hsz
  have hts := atoms_spec (ws := Wds y cc n (some .boolean)) B.pre
  have hown : s.vm.findClass y.cls = some m.cls := findClass_of_methodNamed B.named
  have hlocks := B.notSynchronized
  have hr := B.returns
  have hl := lv_entry av (n := n) hn
  rw [lg_entry_eq]
  refine body p e s m av.toArray below meth c _ (va_A ws s.heap.size) _ ⟨B.exec, B.bytes, hml, hown, fun w hw => hts w (List.mem_cons_of_mem _ hw), hK⟩ hP hD0.self (fun q h => Or.inr h) hX hbl hbA hl ?_
  intro pc H locs ls hd hz hP2 hD2 hS
  exact W.zret B.exec B.bytes hr (bq_nar hz) (fun t ht hW => ⟨⟨rfl, by rw [ht]; exact hP2, hD2⟩, hS.F ht⟩) hS.2.2 hd
theorem w_callX {g : GG} {p : Program} {l : Launch} {e : Env} {R : Room} {s : State} {m : MethodId} {args : Array Value} {below : List Frame} {meth : Method} {c : Code} {H : Heap} {locs : List Loc} {cells slots : Nat} {Q : State → Prop} {cc : ByteArray} {own : String} {nL : Nat} {pc : Nat} {ls : Array Slot} {rest : List Value} {A : Nat → Prop} {ws : va_W} {b Lx : Nat} {xs : Nat → Int32}
    (cx : Cx g p s m args c cc own nL) (hP : va_P (gD g) vwCl ws H) (hD : va_D A ws) (hS : va_S A s.heap H locs) (hA : ∀ q, s.heap.size ≤ q → A q) (hX : va_X b Lx xs s s.heap) (hbl : b < s.heap.size) (hbA : ¬ A b) {y : MethodName} {cc' : ByteArray} {n' fr lo : Nat} {ret : Option FieldType} {As : List Value} {wc wc2 : va_W} {o : Option Value} (hM : CX g l y cc' n' ret fr lo As wc wc2 o b Lx xs)
    (isC : List Nat) (hC : isC.map (fun i => ws[i]?) = wc.map some) (hnd : va_nd isC = true) (hf : wc.map (·.1) = wc2.map (·.1)) (ws2 : va_W) (hw2 : setAll ws isC wc2 = ws2) {k idx : Nat} (hy : yq y k)
    (m1 : Cond.methodLink own idx y ∈ tbG) (m2 : Cond.static y ∈ tbG) (m4 : Cond.initialized y.cls ∈ tbG) (m5 : Cond.code y cc' n' ret ∈ tbG) (hR : fr + 1 ≤ R.frames ∧ 8 + (n' + 11) + lo ≤ R.locals) (hn : As.length = k) {st rs : List Value} (hst : st = As.reverse ++ rest) (hls : ls.size = nL) (hW : (rest.map fun v => v.category).sum ≤ 8) (hdg : decode cc pc = .ok (.invokestatic idx, 3)) (hcs : cells + 0 ≤ R.cells ∧ slots + 0 ≤ R.slots) (hrs : o.toList ++ rest = rs)
    (kk : ∀ (H1 : Heap) (locs1 : List Loc), va_P (gD g) vwCl ws2 H1 → va_D A ws2 → va_S A s.heap H1 locs1 → W p l e R s m args below meth c H1 locs1 cells slots Q (F0 m (pc + 3) ls rs)) : W p l e R s m args below meth c H locs cells slots Q (F0 m pc ls st) := by
  have hPc : va_P (gD g) vwCl wc H := w_sub hP isC hC
  have hDc := (hD.sub isC hnd hC).weaken (B := fun _ => True) (fun _ _ _ _ => trivial)
  have hfr := va_free hD hS hA isC hC
  have hXH : va_X b Lx xs s H := hX.kept (hS.2.1 b hbl hbA)
  exact w_run hP hD hS hA isC hC hf hw2 hrs (va_runS ⟨cx.1, cx.2.1, cx.2.2.1, cx.2.2.2.1, cx.2.2.2.2.1⟩ (hM H.size) ⟨callB_of k cx.2.2.2.2.1 (w_good m5) rfl rfl rfl (cx.2.2.2.2.1 _ m4) (cx.2.2.2.2.1 _ m1) hy hR, cx.2.2.2.2.1 _ m2⟩
    ⟨PreX.blind, fun U hU hW => ⟨rfl, ⟨by rw [hU], by rw [hU]; exact hPc, cx.2.2.2.2.2.warm hW, hDc⟩, by rw [hU]; exact va_X.moved hW.alike hXH, Nat.lt_of_lt_of_le hbl hS.1, fun z => hbA (hfr b z)⟩⟩ rfl hn hls hst (lv_room hW) hdg hcs) kk
noncomputable def o_configure (p1 : Int32) (S : QS) : Option (Int32 × QS) := (f_X8_configure p1 (S.2.2.1 0) (S.2.2.1 1) (S.1 0) (S.1 1) (S.1 2) (S.2.2.1 4) (S.2.2.2.1) (S.2.2.2.2.1)).map (fun q => (q.1, (S.1, S.2.1, (upf ((upf ((upf (S.2.2.1) 0 q.2.1)) 1 q.2.2.1)) 4 q.2.2.2.1), q.2.2.2.2.1, q.2.2.2.2.2, S.2.2.2.2.2)))
set_option maxHeartbeats 4000000 in
set_option maxRecDepth 100000 in
theorem co_configure (g : GG) (l : Launch) (hx : Nat) (α : Nat → Nat) (p1 : Int32) (S : QS) {R : Int32 × QS} (hM : o_configure p1 S = some R) : CT g l yX8_configure cX8_configure 3 (some .int) 2 43 [.ref hx, .int p1] (OB g hx α S ++ []) (OB g hx α R.2 ++ []) (some (.int R.1)) := by
  obtain ⟨q, hq, rfl⟩ := Option.map_eq_some_iff.mp hM
  exact ct_frame (c_X8_configure g l hx (α 0) (α 4) (α 8) (α 9) (α 11) (α 14) (α 21) (α 23) (α 26) (α 1) (α 2) (α 3) (α 29) (fun i => α (30 + 4 * i)) (fun i => α (31 + 4 * i)) (fun i => α (32 + 4 * i)) (fun i => α (33 + 4 * i)) p1 (S.2.2.1 0) (S.2.2.1 1) (S.1 0) (S.1 1) (S.1 2) (S.2.2.1 4) (S.2.2.2.1) (S.2.2.2.2.1) hq) ([0, 1, 2, 3, 4, 9] ++ blk 30 33) (pre_C (mid_C rfl grp_len rfl)) (blk_nd (by decide) (by decide)) (blk_f rfl grp_f) (pre_S (k := 127) ob_len (by decide) (mid_S rfl grp_len grp_len rfl (by decide) rfl))
noncomputable def o_addEdge (p1 : Int32) (p2 : Int32) (p3 : Int32) (S : QS) : Option (Int32 × QS) := (f_X8_addEdge p1 p2 p3 (S.2.2.1 0) (S.2.2.1 1) (S.1 0) (S.1 1) (S.1 2) (S.2.2.1 4) (S.2.2.2.1) (S.2.2.2.2.1)).map (fun q => (q.1, ((upf ((upf ((upf (S.1) 0 q.2.2.1)) 1 q.2.2.2.1)) 2 q.2.2.2.2.1), S.2.1, (upf ((upf (S.2.2.1) 1 q.2.1)) 4 q.2.2.2.2.2.1), q.2.2.2.2.2.2.1, q.2.2.2.2.2.2.2, S.2.2.2.2.2)))
set_option maxHeartbeats 4000000 in
set_option maxRecDepth 100000 in
theorem co_addEdge (g : GG) (l : Launch) (hx : Nat) (α : Nat → Nat) (p1 : Int32) (p2 : Int32) (p3 : Int32) (S : QS) {R : Int32 × QS} (hM : o_addEdge p1 p2 p3 S = some R) : CT g l yX8_addEdge cX8_addEdge 4 (some .int) 2 43 [.ref hx, .int p1, .int p2, .int p3] (OB g hx α S ++ []) (OB g hx α R.2 ++ []) (some (.int R.1)) := by
  obtain ⟨q, hq, rfl⟩ := Option.map_eq_some_iff.mp hM
  exact ct_frame (c_X8_addEdge g l hx (α 0) (α 4) (α 8) (α 9) (α 11) (α 14) (α 21) (α 23) (α 26) (α 1) (α 2) (α 3) (α 29) (fun i => α (30 + 4 * i)) (fun i => α (31 + 4 * i)) (fun i => α (32 + 4 * i)) (fun i => α (33 + 4 * i)) p1 p2 p3 (S.2.2.1 0) (S.2.2.1 1) (S.1 0) (S.1 1) (S.1 2) (S.2.2.1 4) (S.2.2.2.1) (S.2.2.2.2.1) hq) ([0, 1, 2, 3, 4, 9] ++ blk 30 33) (pre_C (mid_C rfl grp_len rfl)) (blk_nd (by decide) (by decide)) (blk_f rfl grp_f) (pre_S (k := 127) ob_len (by decide) (mid_S rfl grp_len grp_len rfl (by decide) rfl))
noncomputable def o_removeEdge (p1 : Int32) (S : QS) : Option (Int32 × QS) := (f_X8_removeEdge p1 (S.2.2.1 0) (S.2.2.1 1) (S.1 0) (S.1 1) (S.1 2) (S.2.2.1 4) (S.2.2.2.1) (S.2.2.2.2.1)).map (fun q => (q.1, ((upf ((upf ((upf (S.1) 0 q.2.2.1)) 1 q.2.2.2.1)) 2 q.2.2.2.2.1), S.2.1, (upf ((upf (S.2.2.1) 1 q.2.1)) 4 q.2.2.2.2.2.1), q.2.2.2.2.2.2.1, q.2.2.2.2.2.2.2, S.2.2.2.2.2)))
set_option maxHeartbeats 4000000 in
set_option maxRecDepth 100000 in
theorem co_removeEdge (g : GG) (l : Launch) (hx : Nat) (α : Nat → Nat) (p1 : Int32) (S : QS) {R : Int32 × QS} (hM : o_removeEdge p1 S = some R) : CT g l yX8_removeEdge cX8_removeEdge 2 (some .int) 2 43 [.ref hx, .int p1] (OB g hx α S ++ []) (OB g hx α R.2 ++ []) (some (.int R.1)) := by
  obtain ⟨q, hq, rfl⟩ := Option.map_eq_some_iff.mp hM
  exact ct_frame (c_X8_removeEdge g l hx (α 0) (α 4) (α 8) (α 9) (α 11) (α 14) (α 21) (α 23) (α 26) (α 1) (α 2) (α 3) (α 29) (fun i => α (30 + 4 * i)) (fun i => α (31 + 4 * i)) (fun i => α (32 + 4 * i)) (fun i => α (33 + 4 * i)) p1 (S.2.2.1 0) (S.2.2.1 1) (S.1 0) (S.1 1) (S.1 2) (S.2.2.1 4) (S.2.2.2.1) (S.2.2.2.2.1) hq) ([0, 1, 2, 3, 4, 9] ++ blk 30 33) (pre_C (mid_C rfl grp_len rfl)) (blk_nd (by decide) (by decide)) (blk_f rfl grp_f) (pre_S (k := 127) ob_len (by decide) (mid_S rfl grp_len grp_len rfl (by decide) rfl))
noncomputable def o_flipSign (p1 : Int32) (S : QS) : Option (Int32 × QS) := (f_X8_flipSign p1 (S.2.2.1 0) (S.2.2.1 1) (S.1 0) (S.1 1) (S.1 2) (S.2.2.1 4) (S.2.2.2.1) (S.2.2.2.2.1)).map (fun q => (q.1, ((upf (S.1) 2 q.2.1), S.2.1, (upf (S.2.2.1) 4 q.2.2.1), q.2.2.2.1, q.2.2.2.2, S.2.2.2.2.2)))
set_option maxHeartbeats 4000000 in
set_option maxRecDepth 100000 in
theorem co_flipSign (g : GG) (l : Launch) (hx : Nat) (α : Nat → Nat) (p1 : Int32) (S : QS) {R : Int32 × QS} (hM : o_flipSign p1 S = some R) : CT g l yX8_flipSign cX8_flipSign 2 (some .int) 2 43 [.ref hx, .int p1] (OB g hx α S ++ []) (OB g hx α R.2 ++ []) (some (.int R.1)) := by
  obtain ⟨q, hq, rfl⟩ := Option.map_eq_some_iff.mp hM
  exact ct_frame (c_X8_flipSign g l hx (α 0) (α 4) (α 8) (α 9) (α 11) (α 14) (α 21) (α 23) (α 26) (α 1) (α 2) (α 3) (α 29) (fun i => α (30 + 4 * i)) (fun i => α (31 + 4 * i)) (fun i => α (32 + 4 * i)) (fun i => α (33 + 4 * i)) p1 (S.2.2.1 0) (S.2.2.1 1) (S.1 0) (S.1 1) (S.1 2) (S.2.2.1 4) (S.2.2.2.1) (S.2.2.2.2.1) hq) ([0, 1, 2, 3, 4, 9] ++ blk 30 33) (pre_C (mid_C rfl grp_len rfl)) (blk_nd (by decide) (by decide)) (blk_f rfl grp_f) (pre_S (k := 127) ob_len (by decide) (mid_S rfl grp_len grp_len rfl (by decide) rfl))
noncomputable def o_appendCharacter (p1 : Int32) (S : QS) : Option (Int32 × QS) := (f_X8_appendCharacter p1 (S.2.2.1 5) (S.2.2.1 6) (S.2.2.1 7) (S.2.2.1 8) (S.2.2.1 9) (S.1 6)).map (fun q => (q.1, ((upf (S.1) 6 q.2.2), S.2.1, (upf (S.2.2.1) 5 q.2.1), S.2.2.2.1, S.2.2.2.2.1, S.2.2.2.2.2)))
set_option maxHeartbeats 4000000 in
set_option maxRecDepth 100000 in
theorem co_appendCharacter (g : GG) (l : Launch) (hx : Nat) (α : Nat → Nat) (p1 : Int32) (S : QS) {R : Int32 × QS} (hM : o_appendCharacter p1 S = some R) : CT g l yX8_appendCharacter cX8_appendCharacter 2 (some .int) 1 21 [.ref hx, .int p1] (OB g hx α S ++ []) (OB g hx α R.2 ++ []) (some (.int R.1)) := by
  obtain ⟨q, hq, rfl⟩ := Option.map_eq_some_iff.mp hM
  exact ct_frame (c_X8_appendCharacter g l hx (α 0) (α 4) (α 8) (α 9) (α 11) (α 14) (α 21) (α 23) (α 26) (α 10) p1 (S.2.2.1 5) (S.2.2.1 6) (S.2.2.1 7) (S.2.2.1 8) (S.2.2.1 9) (S.1 6) hq) [0, 10, 11] (pre_C (pre_C rfl)) (by decide) rfl (pre_S (k := 127) ob_len (by decide) (pre_S (k := 30) rfl (by decide) rfl))
noncomputable def o_clearText (S : QS) : Option (Int32 × QS) := (f_X8_clearText (S.2.2.1 5) (S.2.2.1 6) (S.2.2.1 7) (S.2.2.1 8) (S.2.2.1 9)).map (fun q => (q.1, (S.1, S.2.1, (upf (S.2.2.1) 5 q.2), S.2.2.2.1, S.2.2.2.2.1, S.2.2.2.2.2)))
set_option maxHeartbeats 4000000 in
set_option maxRecDepth 100000 in
theorem co_clearText (g : GG) (l : Launch) (hx : Nat) (α : Nat → Nat) (S : QS) {R : Int32 × QS} (hM : o_clearText  S = some R) : CT g l yX8_clearText cX8_clearText 2 (some .int) 0 0 [.ref hx] (OB g hx α S ++ []) (OB g hx α R.2 ++ []) (some (.int R.1)) := by
  obtain ⟨q, hq, rfl⟩ := Option.map_eq_some_iff.mp hM
  exact ct_frame (c_X8_clearText g l hx (α 0) (α 4) (α 8) (α 9) (α 11) (α 14) (α 21) (α 23) (α 26) (α 10) (S.2.2.1 5) (S.2.2.1 6) (S.2.2.1 7) (S.2.2.1 8) (S.2.2.1 9) hq) [0, 10] (pre_C (pre_C rfl)) (by decide) rfl (pre_S (k := 127) ob_len (by decide) (pre_S (k := 30) rfl (by decide) rfl))
noncomputable def o_loadGraph (S : QS) : Option (Int32 × QS) := (f_X8_loadGraph (S.2.2.1 0) (S.2.2.1 1) (S.1 0) (S.1 1) (S.1 2) (S.2.2.1 2) (S.2.2.1 3) (S.1 3) (S.1 4) (S.1 5) (S.2.2.1 4) (S.2.2.1 5) (S.2.2.1 6) (S.2.2.1 7) (S.2.2.1 8) (S.2.2.1 9) (S.1 6) (S.2.2.2.1) (S.2.2.2.2.1)).map (fun q => (q.1, ((upf ((upf ((upf ((upf ((upf ((upf (S.1) 0 q.2.2.2.1)) 1 q.2.2.2.2.1)) 2 q.2.2.2.2.2.1)) 3 q.2.2.2.2.2.2.2.2.1)) 4 q.2.2.2.2.2.2.2.2.2.1)) 5 q.2.2.2.2.2.2.2.2.2.2.1), S.2.1, (upf ((upf ((upf ((upf ((upf ((upf ((upf ((upf ((upf ((upf (S.2.2.1) 0 q.2.1)) 1 q.2.2.1)) 2 q.2.2.2.2.2.2.1)) 3 q.2.2.2.2.2.2.2.1)) 4 q.2.2.2.2.2.2.2.2.2.2.2.1)) 5 q.2.2.2.2.2.2.2.2.2.2.2.2.1)) 6 q.2.2.2.2.2.2.2.2.2.2.2.2.2.1)) 7 q.2.2.2.2.2.2.2.2.2.2.2.2.2.2.1)) 8 q.2.2.2.2.2.2.2.2.2.2.2.2.2.2.2.1)) 9 q.2.2.2.2.2.2.2.2.2.2.2.2.2.2.2.2.1), q.2.2.2.2.2.2.2.2.2.2.2.2.2.2.2.2.2.1, q.2.2.2.2.2.2.2.2.2.2.2.2.2.2.2.2.2.2, S.2.2.2.2.2)))
set_option maxHeartbeats 4000000 in
set_option maxRecDepth 100000 in
theorem co_loadGraph (g : GG) (l : Launch) (hx : Nat) (α : Nat → Nat) (S : QS) {R : Int32 × QS} (hM : o_loadGraph  S = some R) : CT g l yX8_loadGraph cX8_loadGraph 2 (some .int) 5 110 [.ref hx] (OB g hx α S ++ []) (OB g hx α R.2 ++ []) (some (.int R.1)) := by
  obtain ⟨q, hq, rfl⟩ := Option.map_eq_some_iff.mp hM
  exact ct_frame (c_X8_loadGraph g l hx (α 0) (α 4) (α 8) (α 9) (α 11) (α 14) (α 21) (α 23) (α 26) (α 1) (α 2) (α 3) (α 5) (α 6) (α 7) (α 29) (α 10) (fun i => α (30 + 4 * i)) (fun i => α (31 + 4 * i)) (fun i => α (32 + 4 * i)) (fun i => α (33 + 4 * i)) (S.2.2.1 0) (S.2.2.1 1) (S.1 0) (S.1 1) (S.1 2) (S.2.2.1 2) (S.2.2.1 3) (S.1 3) (S.1 4) (S.1 5) (S.2.2.1 4) (S.2.2.1 5) (S.2.2.1 6) (S.2.2.1 7) (S.2.2.1 8) (S.2.2.1 9) (S.1 6) (S.2.2.2.1) (S.2.2.2.2.1) hq) ([0, 1, 2, 3, 4, 5, 6, 7, 8, 9, 10, 11] ++ blk 30 33) (pre_C (mid_C rfl grp_len rfl)) (blk_nd (by decide) (by decide)) (blk_f rfl grp_f) (pre_S (k := 127) ob_len (by decide) (mid_S rfl grp_len grp_len rfl (by decide) rfl))
noncomputable def o_undo (S : QS) : Option (Int32 × QS) := (f_X8_undo (S.2.2.1 0) (S.2.2.1 1) (S.1 0) (S.1 1) (S.1 2) (S.2.2.1 4) (S.2.2.2.1) (S.2.2.2.2.1)).map (fun q => (q.1, ((upf ((upf ((upf (S.1) 0 q.2.2.2.1)) 1 q.2.2.2.2.1)) 2 q.2.2.2.2.2.1), S.2.1, (upf ((upf ((upf (S.2.2.1) 0 q.2.1)) 1 q.2.2.1)) 4 q.2.2.2.2.2.2), S.2.2.2.1, S.2.2.2.2.1, S.2.2.2.2.2)))
set_option maxHeartbeats 4000000 in
set_option maxRecDepth 100000 in
theorem co_undo (g : GG) (l : Launch) (hx : Nat) (α : Nat → Nat) (S : QS) {R : Int32 × QS} (hM : o_undo  S = some R) : CT g l yX8_undo cX8_undo 1 (some .int) 2 43 [.ref hx] (OB g hx α S ++ []) (OB g hx α R.2 ++ []) (some (.int R.1)) := by
  obtain ⟨q, hq, rfl⟩ := Option.map_eq_some_iff.mp hM
  exact ct_frame (c_X8_undo g l hx (α 0) (α 4) (α 8) (α 9) (α 11) (α 14) (α 21) (α 23) (α 26) (α 1) (α 2) (α 3) (α 29) (fun i => α (30 + 4 * i)) (fun i => α (31 + 4 * i)) (fun i => α (32 + 4 * i)) (fun i => α (33 + 4 * i)) (S.2.2.1 0) (S.2.2.1 1) (S.1 0) (S.1 1) (S.1 2) (S.2.2.1 4) (S.2.2.2.1) (S.2.2.2.2.1) hq) ([0, 1, 2, 3, 4, 9] ++ blk 30 33) (pre_C (mid_C rfl grp_len rfl)) (blk_nd (by decide) (by decide)) (blk_f rfl grp_f) (pre_S (k := 127) ob_len (by decide) (mid_S rfl grp_len grp_len rfl (by decide) rfl))
noncomputable def o_vertexCount (S : QS) : Option (Int32 × QS) := (f_X8_vertexCount (S.2.2.1 0) (S.2.2.1 1)).map (fun q => (q, (S.1, S.2.1, S.2.2.1, S.2.2.2.1, S.2.2.2.2.1, S.2.2.2.2.2)))
set_option maxHeartbeats 4000000 in
set_option maxRecDepth 100000 in
theorem co_vertexCount (g : GG) (l : Launch) (hx : Nat) (α : Nat → Nat) (S : QS) {R : Int32 × QS} (hM : o_vertexCount  S = some R) : CT g l yX8_vertexCount cX8_vertexCount 1 (some .int) 0 0 [.ref hx] (OB g hx α S ++ []) (OB g hx α R.2 ++ []) (some (.int R.1)) := by
  obtain ⟨q, hq, rfl⟩ := Option.map_eq_some_iff.mp hM
  exact ct_frame (c_X8_vertexCount g l hx (α 0) (α 4) (α 8) (α 9) (α 11) (α 14) (α 21) (α 23) (α 26) (α 1) (α 2) (α 3) (S.2.2.1 0) (S.2.2.1 1) hq) [0, 1] (pre_C (pre_C rfl)) (by decide) rfl (pre_S (k := 127) ob_len (by decide) (pre_S (k := 30) rfl (by decide) rfl))
noncomputable def o_edgeCount (S : QS) : Option (Int32 × QS) := (f_X8_edgeCount (S.2.2.1 0) (S.2.2.1 1)).map (fun q => (q, (S.1, S.2.1, S.2.2.1, S.2.2.2.1, S.2.2.2.2.1, S.2.2.2.2.2)))
set_option maxHeartbeats 4000000 in
set_option maxRecDepth 100000 in
theorem co_edgeCount (g : GG) (l : Launch) (hx : Nat) (α : Nat → Nat) (S : QS) {R : Int32 × QS} (hM : o_edgeCount  S = some R) : CT g l yX8_edgeCount cX8_edgeCount 1 (some .int) 0 0 [.ref hx] (OB g hx α S ++ []) (OB g hx α R.2 ++ []) (some (.int R.1)) := by
  obtain ⟨q, hq, rfl⟩ := Option.map_eq_some_iff.mp hM
  exact ct_frame (c_X8_edgeCount g l hx (α 0) (α 4) (α 8) (α 9) (α 11) (α 14) (α 21) (α 23) (α 26) (α 1) (α 2) (α 3) (S.2.2.1 0) (S.2.2.1 1) hq) [0, 1] (pre_C (pre_C rfl)) (by decide) rfl (pre_S (k := 127) ob_len (by decide) (pre_S (k := 30) rfl (by decide) rfl))
noncomputable def o_headOf (p1 : Int32) (S : QS) : Option (Int32 × QS) := (f_X8_headOf p1 (S.2.2.1 0) (S.2.2.1 1) (S.1 0) (S.1 1)).map (fun q => (q, (S.1, S.2.1, S.2.2.1, S.2.2.2.1, S.2.2.2.2.1, S.2.2.2.2.2)))
set_option maxHeartbeats 4000000 in
set_option maxRecDepth 100000 in
theorem co_headOf (g : GG) (l : Launch) (hx : Nat) (α : Nat → Nat) (p1 : Int32) (S : QS) {R : Int32 × QS} (hM : o_headOf p1 S = some R) : CT g l yX8_headOf cX8_headOf 2 (some .int) 1 21 [.ref hx, .int p1] (OB g hx α S ++ []) (OB g hx α R.2 ++ []) (some (.int R.1)) := by
  obtain ⟨q, hq, rfl⟩ := Option.map_eq_some_iff.mp hM
  exact ct_frame (c_X8_headOf g l hx (α 0) (α 4) (α 8) (α 9) (α 11) (α 14) (α 21) (α 23) (α 26) (α 1) (α 2) (α 3) p1 (S.2.2.1 0) (S.2.2.1 1) (S.1 0) (S.1 1) hq) [0, 1, 2, 3] (pre_C (pre_C rfl)) (by decide) rfl (pre_S (k := 127) ob_len (by decide) (pre_S (k := 30) rfl (by decide) rfl))
noncomputable def o_follows (p1 : Int32) (p2 : Int32) (S : QS) : Option (Int32 × QS) := (f_X8_follows p1 p2 (S.2.2.1 0) (S.2.2.1 1) (S.1 0) (S.1 1)).map (fun q => (q, (S.1, S.2.1, S.2.2.1, S.2.2.2.1, S.2.2.2.2.1, S.2.2.2.2.2)))
set_option maxHeartbeats 4000000 in
set_option maxRecDepth 100000 in
theorem co_follows (g : GG) (l : Launch) (hx : Nat) (α : Nat → Nat) (p1 : Int32) (p2 : Int32) (S : QS) {R : Int32 × QS} (hM : o_follows p1 p2 S = some R) : CT g l yX8_follows cX8_follows 3 (some .int) 2 43 [.ref hx, .int p1, .int p2] (OB g hx α S ++ []) (OB g hx α R.2 ++ []) (some (.int R.1)) := by
  obtain ⟨q, hq, rfl⟩ := Option.map_eq_some_iff.mp hM
  exact ct_frame (c_X8_follows g l hx (α 0) (α 4) (α 8) (α 9) (α 11) (α 14) (α 21) (α 23) (α 26) (α 1) (α 2) (α 3) p1 p2 (S.2.2.1 0) (S.2.2.1 1) (S.1 0) (S.1 1) hq) [0, 1, 2, 3] (pre_C (pre_C rfl)) (by decide) rfl (pre_S (k := 127) ob_len (by decide) (pre_S (k := 30) rfl (by decide) rfl))
noncomputable def o_degree (p1 : Int32) (S : QS) : Option (Int32 × QS) := (f_X8_degree p1 (S.2.2.1 0) (S.2.2.1 1) (S.1 0) (S.1 1)).map (fun q => (q, (S.1, S.2.1, S.2.2.1, S.2.2.2.1, S.2.2.2.2.1, S.2.2.2.2.2)))
set_option maxHeartbeats 4000000 in
set_option maxRecDepth 100000 in
theorem co_degree (g : GG) (l : Launch) (hx : Nat) (α : Nat → Nat) (p1 : Int32) (S : QS) {R : Int32 × QS} (hM : o_degree p1 S = some R) : CT g l yX8_degree cX8_degree 2 (some .int) 1 23 [.ref hx, .int p1] (OB g hx α S ++ []) (OB g hx α R.2 ++ []) (some (.int R.1)) := by
  obtain ⟨q, hq, rfl⟩ := Option.map_eq_some_iff.mp hM
  exact ct_frame (c_X8_degree g l hx (α 0) (α 4) (α 8) (α 9) (α 11) (α 14) (α 21) (α 23) (α 26) (α 1) (α 2) (α 3) p1 (S.2.2.1 0) (S.2.2.1 1) (S.1 0) (S.1 1) hq) [0, 1, 2, 3] (pre_C (pre_C rfl)) (by decide) rfl (pre_S (k := 127) ob_len (by decide) (pre_S (k := 30) rfl (by decide) rfl))
noncomputable def o_components (S : QS) : Option (Int32 × QS) := (f_X8_components (S.2.2.1 0) (S.2.2.1 1) (S.1 0) (S.1 1) (S.1 2) (S.1 7) (S.1 8)).map (fun q => (q.1, ((upf ((upf (S.1) 7 q.2.1)) 8 q.2.2), S.2.1, S.2.2.1, S.2.2.2.1, S.2.2.2.2.1, S.2.2.2.2.2)))
set_option maxHeartbeats 4000000 in
set_option maxRecDepth 100000 in
theorem co_components (g : GG) (l : Launch) (hx : Nat) (α : Nat → Nat) (S : QS) {R : Int32 × QS} (hM : o_components  S = some R) : CT g l yX8_components cX8_components 1 (some .int) 3 72 [.ref hx] (OB g hx α S ++ []) (OB g hx α R.2 ++ []) (some (.int R.1)) := by
  obtain ⟨q, hq, rfl⟩ := Option.map_eq_some_iff.mp hM
  exact ct_frame (c_X8_components g l hx (α 0) (α 4) (α 8) (α 9) (α 11) (α 14) (α 21) (α 23) (α 26) (α 1) (α 2) (α 3) (α 12) (α 13) (S.2.2.1 0) (S.2.2.1 1) (S.1 0) (S.1 1) (S.1 2) (S.1 7) (S.1 8) hq) [0, 1, 2, 3, 4, 12, 13, 14] (pre_C (pre_C rfl)) (by decide) rfl (pre_S (k := 127) ob_len (by decide) (pre_S (k := 30) rfl (by decide) rfl))
noncomputable def o_rank (S : QS) : Option (Int32 × QS) := (f_X8_rank (S.2.2.1 0) (S.2.2.1 1) (S.1 0) (S.1 1) (S.1 2) (S.1 7) (S.1 8)).map (fun q => (q.1, ((upf ((upf (S.1) 7 q.2.1)) 8 q.2.2), S.2.1, S.2.2.1, S.2.2.2.1, S.2.2.2.2.1, S.2.2.2.2.2)))
set_option maxHeartbeats 4000000 in
set_option maxRecDepth 100000 in
theorem co_rank (g : GG) (l : Launch) (hx : Nat) (α : Nat → Nat) (S : QS) {R : Int32 × QS} (hM : o_rank  S = some R) : CT g l yX8_rank cX8_rank 1 (some .int) 3 72 [.ref hx] (OB g hx α S ++ []) (OB g hx α R.2 ++ []) (some (.int R.1)) := by
  obtain ⟨q, hq, rfl⟩ := Option.map_eq_some_iff.mp hM
  exact ct_frame (c_X8_rank g l hx (α 0) (α 4) (α 8) (α 9) (α 11) (α 14) (α 21) (α 23) (α 26) (α 1) (α 2) (α 3) (α 12) (α 13) (S.2.2.1 0) (S.2.2.1 1) (S.1 0) (S.1 1) (S.1 2) (S.1 7) (S.1 8) hq) [0, 1, 2, 3, 4, 12, 13, 14] (pre_C (pre_C rfl)) (by decide) rfl (pre_S (k := 127) ob_len (by decide) (pre_S (k := 30) rfl (by decide) rfl))
noncomputable def o_isBalanced (S : QS) : Option (Int32 × QS) := (f_X8_isBalanced (S.2.2.1 0) (S.2.2.1 1) (S.1 0) (S.1 1) (S.1 2) (S.1 7) (S.1 8)).map (fun q => (q.1, ((upf ((upf (S.1) 7 q.2.1)) 8 q.2.2), S.2.1, S.2.2.1, S.2.2.2.1, S.2.2.2.2.1, S.2.2.2.2.2)))
set_option maxHeartbeats 4000000 in
set_option maxRecDepth 100000 in
theorem co_isBalanced (g : GG) (l : Launch) (hx : Nat) (α : Nat → Nat) (S : QS) {R : Int32 × QS} (hM : o_isBalanced  S = some R) : CT g l yX8_isBalanced cX8_isBalanced 1 (some .int) 3 71 [.ref hx] (OB g hx α S ++ []) (OB g hx α R.2 ++ []) (some (.int R.1)) := by
  obtain ⟨q, hq, rfl⟩ := Option.map_eq_some_iff.mp hM
  exact ct_frame (c_X8_isBalanced g l hx (α 0) (α 4) (α 8) (α 9) (α 11) (α 14) (α 21) (α 23) (α 26) (α 1) (α 2) (α 3) (α 12) (α 13) (S.2.2.1 0) (S.2.2.1 1) (S.1 0) (S.1 1) (S.1 2) (S.1 7) (S.1 8) hq) [0, 1, 2, 3, 4, 12, 13, 14] (pre_C (pre_C rfl)) (by decide) rfl (pre_S (k := 127) ob_len (by decide) (pre_S (k := 30) rfl (by decide) rfl))
noncomputable def o_walks (p1 : Int32) (S : QS) : Option (Int64 × QS) := (f_X8_walks p1 (S.2.2.1 0) (S.2.2.1 1) (S.1 0) (S.1 1) (S.1 2) (S.2.1 0) (S.2.1 4) (S.2.1 5)).map (fun q => (q.1, (S.1, (upf ((upf ((upf (S.2.1) 0 q.2.1)) 4 q.2.2.1)) 5 q.2.2.2), S.2.2.1, S.2.2.2.1, S.2.2.2.2.1, S.2.2.2.2.2)))
set_option maxHeartbeats 4000000 in
set_option maxRecDepth 100000 in
theorem co_walks (g : GG) (l : Launch) (hx : Nat) (α : Nat → Nat) (p1 : Int32) (S : QS) {R : Int64 × QS} (hM : o_walks p1 S = some R) : CT g l yX8_walks cX8_walks 2 (some .long) 4 102 [.ref hx, .int p1] (OB g hx α S ++ []) (OB g hx α R.2 ++ []) (some (.long R.1)) := by
  obtain ⟨q, hq, rfl⟩ := Option.map_eq_some_iff.mp hM
  exact ct_frame (c_X8_walks g l hx (α 0) (α 4) (α 8) (α 9) (α 11) (α 14) (α 21) (α 23) (α 26) (α 1) (α 2) (α 3) (α 15) (α 16) (α 17) (α 18) (α 19) (α 20) p1 (S.2.2.1 0) (S.2.2.1 1) (S.1 0) (S.1 1) (S.1 2) (S.2.1 0) (S.2.1 4) (S.2.1 5) hq) [0, 1, 2, 3, 4, 15, 16, 20, 21] (pre_C (pre_C rfl)) (by decide) rfl (pre_S (k := 127) ob_len (by decide) (pre_S (k := 30) rfl (by decide) rfl))
noncomputable def o_signedWalks (p1 : Int32) (S : QS) : Option (Int64 × QS) := (f_X8_signedWalks p1 (S.2.2.1 0) (S.2.2.1 1) (S.1 0) (S.1 1) (S.1 2) (S.2.1 1) (S.2.1 4) (S.2.1 5)).map (fun q => (q.1, (S.1, (upf ((upf ((upf (S.2.1) 1 q.2.1)) 4 q.2.2.1)) 5 q.2.2.2), S.2.2.1, S.2.2.2.1, S.2.2.2.2.1, S.2.2.2.2.2)))
set_option maxHeartbeats 4000000 in
set_option maxRecDepth 100000 in
theorem co_signedWalks (g : GG) (l : Launch) (hx : Nat) (α : Nat → Nat) (p1 : Int32) (S : QS) {R : Int64 × QS} (hM : o_signedWalks p1 S = some R) : CT g l yX8_signedWalks cX8_signedWalks 2 (some .long) 4 102 [.ref hx, .int p1] (OB g hx α S ++ []) (OB g hx α R.2 ++ []) (some (.long R.1)) := by
  obtain ⟨q, hq, rfl⟩ := Option.map_eq_some_iff.mp hM
  exact ct_frame (c_X8_signedWalks g l hx (α 0) (α 4) (α 8) (α 9) (α 11) (α 14) (α 21) (α 23) (α 26) (α 1) (α 2) (α 3) (α 15) (α 16) (α 17) (α 18) (α 19) (α 20) p1 (S.2.2.1 0) (S.2.2.1 1) (S.1 0) (S.1 1) (S.1 2) (S.2.1 1) (S.2.1 4) (S.2.1 5) hq) [0, 1, 2, 3, 4, 15, 17, 20, 21] (pre_C (pre_C rfl)) (by decide) rfl (pre_S (k := 127) ob_len (by decide) (pre_S (k := 30) rfl (by decide) rfl))
noncomputable def o_coverWalks (p1 : Int32) (S : QS) : Option (Int64 × QS) := (f_X8_coverWalks p1 (S.2.2.1 0) (S.2.2.1 1) (S.1 0) (S.1 1) (S.1 2) (S.2.1 0) (S.2.1 1) (S.2.1 4) (S.2.1 5)).map (fun q => (q.1, (S.1, (upf ((upf ((upf ((upf (S.2.1) 0 q.2.1)) 1 q.2.2.1)) 4 q.2.2.2.1)) 5 q.2.2.2.2), S.2.2.1, S.2.2.2.1, S.2.2.2.2.1, S.2.2.2.2.2)))
set_option maxHeartbeats 4000000 in
set_option maxRecDepth 100000 in
theorem co_coverWalks (g : GG) (l : Launch) (hx : Nat) (α : Nat → Nat) (p1 : Int32) (S : QS) {R : Int64 × QS} (hM : o_coverWalks p1 S = some R) : CT g l yX8_coverWalks cX8_coverWalks 2 (some .long) 4 102 [.ref hx, .int p1] (OB g hx α S ++ []) (OB g hx α R.2 ++ []) (some (.long R.1)) := by
  obtain ⟨q, hq, rfl⟩ := Option.map_eq_some_iff.mp hM
  exact ct_frame (c_X8_coverWalks g l hx (α 0) (α 4) (α 8) (α 9) (α 11) (α 14) (α 21) (α 23) (α 26) (α 1) (α 2) (α 3) (α 15) (α 16) (α 17) (α 18) (α 19) (α 20) p1 (S.2.2.1 0) (S.2.2.1 1) (S.1 0) (S.1 1) (S.1 2) (S.2.1 0) (S.2.1 1) (S.2.1 4) (S.2.1 5) hq) [0, 1, 2, 3, 4, 15, 16, 17, 20, 21] (pre_C (pre_C rfl)) (by decide) rfl (pre_S (k := 127) ob_len (by decide) (pre_S (k := 30) rfl (by decide) rfl))
noncomputable def o_primes (p1 : Int32) (S : QS) : Option (Int64 × QS) := (f_X8_primes p1 (S.2.2.1 0) (S.2.2.1 1) (S.1 0) (S.1 1) (S.1 2) (S.2.1 0) (S.2.1 2) (S.2.1 4) (S.2.1 5)).map (fun q => (q.1, (S.1, (upf ((upf ((upf ((upf (S.2.1) 0 q.2.1)) 2 q.2.2.1)) 4 q.2.2.2.1)) 5 q.2.2.2.2), S.2.2.1, S.2.2.2.1, S.2.2.2.2.1, S.2.2.2.2.2)))
set_option maxHeartbeats 4000000 in
set_option maxRecDepth 100000 in
theorem co_primes (g : GG) (l : Launch) (hx : Nat) (α : Nat → Nat) (p1 : Int32) (S : QS) {R : Int64 × QS} (hM : o_primes p1 S = some R) : CT g l yX8_primes cX8_primes 2 (some .long) 5 125 [.ref hx, .int p1] (OB g hx α S ++ []) (OB g hx α R.2 ++ []) (some (.long R.1)) := by
  obtain ⟨q, hq, rfl⟩ := Option.map_eq_some_iff.mp hM
  exact ct_frame (c_X8_primes g l hx (α 0) (α 4) (α 8) (α 9) (α 11) (α 14) (α 21) (α 23) (α 26) (α 1) (α 2) (α 3) (α 15) (α 16) (α 17) (α 18) (α 19) (α 20) p1 (S.2.2.1 0) (S.2.2.1 1) (S.1 0) (S.1 1) (S.1 2) (S.2.1 0) (S.2.1 2) (S.2.1 4) (S.2.1 5) hq) [0, 1, 2, 3, 4, 15, 16, 18, 20, 21] (pre_C (pre_C rfl)) (by decide) rfl (pre_S (k := 127) ob_len (by decide) (pre_S (k := 30) rfl (by decide) rfl))
noncomputable def o_positivePrimes (p1 : Int32) (S : QS) : Option (Int64 × QS) := (f_X8_positivePrimes p1 (S.2.2.1 0) (S.2.2.1 1) (S.1 0) (S.1 1) (S.1 2) (S.2.1 0) (S.2.1 1) (S.2.1 2) (S.2.1 3) (S.2.1 4) (S.2.1 5)).map (fun q => (q.1, (S.1, (upf ((upf ((upf ((upf ((upf ((upf (S.2.1) 0 q.2.1)) 1 q.2.2.1)) 2 q.2.2.2.1)) 3 q.2.2.2.2.1)) 4 q.2.2.2.2.2.1)) 5 q.2.2.2.2.2.2), S.2.2.1, S.2.2.2.1, S.2.2.2.2.1, S.2.2.2.2.2)))
set_option maxHeartbeats 4000000 in
set_option maxRecDepth 100000 in
theorem co_positivePrimes (g : GG) (l : Launch) (hx : Nat) (α : Nat → Nat) (p1 : Int32) (S : QS) {R : Int64 × QS} (hM : o_positivePrimes p1 S = some R) : CT g l yX8_positivePrimes cX8_positivePrimes 4 (some .long) 6 149 [.ref hx, .int p1] (OB g hx α S ++ []) (OB g hx α R.2 ++ []) (some (.long R.1)) := by
  obtain ⟨q, hq, rfl⟩ := Option.map_eq_some_iff.mp hM
  exact ct_frame (c_X8_positivePrimes g l hx (α 0) (α 4) (α 8) (α 9) (α 11) (α 14) (α 21) (α 23) (α 26) (α 1) (α 2) (α 3) (α 15) (α 16) (α 17) (α 18) (α 19) (α 20) p1 (S.2.2.1 0) (S.2.2.1 1) (S.1 0) (S.1 1) (S.1 2) (S.2.1 0) (S.2.1 1) (S.2.1 2) (S.2.1 3) (S.2.1 4) (S.2.1 5) hq) [0, 1, 2, 3, 4, 15, 16, 17, 18, 19, 20, 21] (pre_C (pre_C rfl)) (by decide) rfl (pre_S (k := 127) ob_len (by decide) (pre_S (k := 30) rfl (by decide) rfl))
noncomputable def o_girth (S : QS) : Option (Int32 × QS) := (f_X8_girth (S.2.2.1 0) (S.2.2.1 1) (S.1 0) (S.1 1) (S.1 2) (S.2.1 0) (S.2.1 2) (S.2.1 4) (S.2.1 5)).map (fun q => (q.1, (S.1, (upf ((upf ((upf ((upf (S.2.1) 0 q.2.1)) 2 q.2.2.1)) 4 q.2.2.2.1)) 5 q.2.2.2.2), S.2.2.1, S.2.2.2.1, S.2.2.2.2.1, S.2.2.2.2.2)))
set_option maxHeartbeats 4000000 in
set_option maxRecDepth 100000 in
theorem co_girth (g : GG) (l : Launch) (hx : Nat) (α : Nat → Nat) (S : QS) {R : Int32 × QS} (hM : o_girth  S = some R) : CT g l yX8_girth cX8_girth 2 (some .int) 5 125 [.ref hx] (OB g hx α S ++ []) (OB g hx α R.2 ++ []) (some (.int R.1)) := by
  obtain ⟨q, hq, rfl⟩ := Option.map_eq_some_iff.mp hM
  exact ct_frame (c_X8_girth g l hx (α 0) (α 4) (α 8) (α 9) (α 11) (α 14) (α 21) (α 23) (α 26) (α 1) (α 2) (α 3) (α 15) (α 16) (α 17) (α 18) (α 19) (α 20) (S.2.2.1 0) (S.2.2.1 1) (S.1 0) (S.1 1) (S.1 2) (S.2.1 0) (S.2.1 2) (S.2.1 4) (S.2.1 5) hq) [0, 1, 2, 3, 4, 15, 16, 18, 20, 21] (pre_C (pre_C rfl)) (by decide) rfl (pre_S (k := 127) ob_len (by decide) (pre_S (k := 30) rfl (by decide) rfl))
noncomputable def o_period (S : QS) : Option (Int32 × QS) := (f_X8_period (S.2.2.1 0) (S.2.2.1 1) (S.1 0) (S.1 1) (S.1 2) (S.2.1 0) (S.2.1 2) (S.2.1 4) (S.2.1 5)).map (fun q => (q.1, (S.1, (upf ((upf ((upf ((upf (S.2.1) 0 q.2.1)) 2 q.2.2.1)) 4 q.2.2.2.1)) 5 q.2.2.2.2), S.2.2.1, S.2.2.2.1, S.2.2.2.2.1, S.2.2.2.2.2)))
set_option maxHeartbeats 4000000 in
set_option maxRecDepth 100000 in
theorem co_period (g : GG) (l : Launch) (hx : Nat) (α : Nat → Nat) (S : QS) {R : Int32 × QS} (hM : o_period  S = some R) : CT g l yX8_period cX8_period 3 (some .int) 5 125 [.ref hx] (OB g hx α S ++ []) (OB g hx α R.2 ++ []) (some (.int R.1)) := by
  obtain ⟨q, hq, rfl⟩ := Option.map_eq_some_iff.mp hM
  exact ct_frame (c_X8_period g l hx (α 0) (α 4) (α 8) (α 9) (α 11) (α 14) (α 21) (α 23) (α 26) (α 1) (α 2) (α 3) (α 15) (α 16) (α 17) (α 18) (α 19) (α 20) (S.2.2.1 0) (S.2.2.1 1) (S.1 0) (S.1 1) (S.1 2) (S.2.1 0) (S.2.1 2) (S.2.1 4) (S.2.1 5) hq) [0, 1, 2, 3, 4, 15, 16, 18, 20, 21] (pre_C (pre_C rfl)) (by decide) rfl (pre_S (k := 127) ob_len (by decide) (pre_S (k := 30) rfl (by decide) rfl))
noncomputable def o_primeEdge (p1 : Int32) (p2 : Int32) (p3 : Int32) (S : QS) : Option (Int32 × QS) := (f_X8_primeEdge p1 p2 p3 (S.2.2.1 0) (S.2.2.1 1) (S.1 0) (S.1 1) (S.1 2) (S.2.2.1 10) (S.1 9)).map (fun q => (q.1, ((upf (S.1) 9 q.2.2), S.2.1, (upf (S.2.2.1) 10 q.2.1), S.2.2.2.1, S.2.2.2.2.1, S.2.2.2.2.2)))
set_option maxHeartbeats 4000000 in
set_option maxRecDepth 100000 in
theorem co_primeEdge (g : GG) (l : Launch) (hx : Nat) (α : Nat → Nat) (p1 : Int32) (p2 : Int32) (p3 : Int32) (S : QS) {R : Int32 × QS} (hM : o_primeEdge p1 p2 p3 S = some R) : CT g l yX8_primeEdge cX8_primeEdge 4 (some .int) 12 305 [.ref hx, .int p1, .int p2, .int p3] (OB g hx α S ++ []) (OB g hx α R.2 ++ []) (some (.int R.1)) := by
  obtain ⟨q, hq, rfl⟩ := Option.map_eq_some_iff.mp hM
  exact ct_frame (c_X8_primeEdge g l hx (α 0) (α 4) (α 8) (α 9) (α 11) (α 14) (α 21) (α 23) (α 26) (α 1) (α 2) (α 3) (α 22) p1 p2 p3 (S.2.2.1 0) (S.2.2.1 1) (S.1 0) (S.1 1) (S.1 2) (S.2.2.1 10) (S.1 9) hq) [0, 1, 2, 3, 4, 22, 23] (pre_C (pre_C rfl)) (by decide) rfl (pre_S (k := 127) ob_len (by decide) (pre_S (k := 30) rfl (by decide) rfl))
noncomputable def o_primeSign (p1 : Int32) (p2 : Int32) (S : QS) : Option (Int32 × QS) := (f_X8_primeSign p1 p2 (S.2.2.1 0) (S.2.2.1 1) (S.1 0) (S.1 1) (S.1 2) (S.2.2.1 10) (S.1 9)).map (fun q => (q.1, ((upf (S.1) 9 q.2.2), S.2.1, (upf (S.2.2.1) 10 q.2.1), S.2.2.2.1, S.2.2.2.2.1, S.2.2.2.2.2)))
set_option maxHeartbeats 4000000 in
set_option maxRecDepth 100000 in
theorem co_primeSign (g : GG) (l : Launch) (hx : Nat) (α : Nat → Nat) (p1 : Int32) (p2 : Int32) (S : QS) {R : Int32 × QS} (hM : o_primeSign p1 p2 S = some R) : CT g l yX8_primeSign cX8_primeSign 3 (some .int) 12 305 [.ref hx, .int p1, .int p2] (OB g hx α S ++ []) (OB g hx α R.2 ++ []) (some (.int R.1)) := by
  obtain ⟨q, hq, rfl⟩ := Option.map_eq_some_iff.mp hM
  exact ct_frame (c_X8_primeSign g l hx (α 0) (α 4) (α 8) (α 9) (α 11) (α 14) (α 21) (α 23) (α 26) (α 1) (α 2) (α 3) (α 22) p1 p2 (S.2.2.1 0) (S.2.2.1 1) (S.1 0) (S.1 1) (S.1 2) (S.2.2.1 10) (S.1 9) hq) [0, 1, 2, 3, 4, 22, 23] (pre_C (pre_C rfl)) (by decide) rfl (pre_S (k := 127) ob_len (by decide) (pre_S (k := 30) rfl (by decide) rfl))
noncomputable def o_edgeCoefficient (p1 : Int32) (S : QS) : Option (Int64 × QS) := (f_X8_edgeCoefficient p1 (S.2.2.1 0) (S.2.2.1 1) (S.1 0) (S.1 1) (S.1 2) (S.2.1 0) (S.2.1 4) (S.2.1 5) (S.2.1 6)).map (fun q => (q.1, (S.1, (upf ((upf ((upf ((upf (S.2.1) 0 q.2.1)) 4 q.2.2.1)) 5 q.2.2.2.1)) 6 q.2.2.2.2), S.2.2.1, S.2.2.2.1, S.2.2.2.2.1, S.2.2.2.2.2)))
set_option maxHeartbeats 4000000 in
set_option maxRecDepth 100000 in
theorem co_edgeCoefficient (g : GG) (l : Launch) (hx : Nat) (α : Nat → Nat) (p1 : Int32) (S : QS) {R : Int64 × QS} (hM : o_edgeCoefficient p1 S = some R) : CT g l yX8_edgeCoefficient cX8_edgeCoefficient 2 (some .long) 5 122 [.ref hx, .int p1] (OB g hx α S ++ []) (OB g hx α R.2 ++ []) (some (.long R.1)) := by
  obtain ⟨q, hq, rfl⟩ := Option.map_eq_some_iff.mp hM
  exact ct_frame (c_X8_edgeCoefficient g l hx (α 0) (α 4) (α 8) (α 9) (α 11) (α 14) (α 21) (α 23) (α 26) (α 1) (α 2) (α 3) (α 15) (α 16) (α 17) (α 18) (α 19) (α 20) (α 24) (α 25) p1 (S.2.2.1 0) (S.2.2.1 1) (S.1 0) (S.1 1) (S.1 2) (S.2.1 0) (S.2.1 4) (S.2.1 5) (S.2.1 6) hq) [0, 1, 2, 3, 4, 15, 16, 20, 21, 24, 25] (pre_C (pre_C rfl)) (by decide) rfl (pre_S (k := 127) ob_len (by decide) (pre_S (k := 30) rfl (by decide) rfl))
noncomputable def o_signedCoefficient (p1 : Int32) (S : QS) : Option (Int64 × QS) := (f_X8_signedCoefficient p1 (S.2.2.1 0) (S.2.2.1 1) (S.1 0) (S.1 1) (S.1 2) (S.2.1 1) (S.2.1 4) (S.2.1 5) (S.2.1 6)).map (fun q => (q.1, (S.1, (upf ((upf ((upf ((upf (S.2.1) 1 q.2.1)) 4 q.2.2.1)) 5 q.2.2.2.1)) 6 q.2.2.2.2), S.2.2.1, S.2.2.2.1, S.2.2.2.2.1, S.2.2.2.2.2)))
set_option maxHeartbeats 4000000 in
set_option maxRecDepth 100000 in
theorem co_signedCoefficient (g : GG) (l : Launch) (hx : Nat) (α : Nat → Nat) (p1 : Int32) (S : QS) {R : Int64 × QS} (hM : o_signedCoefficient p1 S = some R) : CT g l yX8_signedCoefficient cX8_signedCoefficient 2 (some .long) 4 102 [.ref hx, .int p1] (OB g hx α S ++ []) (OB g hx α R.2 ++ []) (some (.long R.1)) := by
  obtain ⟨q, hq, rfl⟩ := Option.map_eq_some_iff.mp hM
  exact ct_frame (c_X8_signedCoefficient g l hx (α 0) (α 4) (α 8) (α 9) (α 11) (α 14) (α 21) (α 23) (α 26) (α 1) (α 2) (α 3) (α 15) (α 16) (α 17) (α 18) (α 19) (α 20) (α 24) (α 25) p1 (S.2.2.1 0) (S.2.2.1 1) (S.1 0) (S.1 1) (S.1 2) (S.2.1 1) (S.2.1 4) (S.2.1 5) (S.2.1 6) hq) [0, 1, 2, 3, 4, 15, 17, 20, 21, 24, 25] (pre_C (pre_C rfl)) (by decide) rfl (pre_S (k := 127) ob_len (by decide) (pre_S (k := 30) rfl (by decide) rfl))
noncomputable def o_vertexCoefficient (p1 : Int32) (S : QS) : Option (Int64 × QS) := (f_X8_vertexCoefficient p1 (S.2.2.1 0) (S.2.2.1 1) (S.1 0) (S.1 1) (S.2.1 8) (S.2.2.2.2.2)).map (fun q => (q.1, (S.1, (upf (S.2.1) 8 q.2.1), S.2.2.1, S.2.2.2.1, S.2.2.2.2.1, q.2.2)))
set_option maxHeartbeats 4000000 in
set_option maxRecDepth 100000 in
theorem co_vertexCoefficient (g : GG) (l : Launch) (hx : Nat) (α : Nat → Nat) (p1 : Int32) (S : QS) {R : Int64 × QS} (hM : o_vertexCoefficient p1 S = some R) : CT g l yX8_vertexCoefficient cX8_vertexCoefficient 2 (some .long) 4 102 [.ref hx, .int p1] (OB g hx α S ++ []) (OB g hx α R.2 ++ []) (some (.long R.1)) := by
  obtain ⟨q, hq, rfl⟩ := Option.map_eq_some_iff.mp hM
  exact ct_frame (c_X8_vertexCoefficient g l hx (α 0) (α 4) (α 8) (α 9) (α 11) (α 14) (α 21) (α 23) (α 26) (α 1) (α 2) (α 3) (α 27) (α 28) (fun i => α (i + 62)) p1 (S.2.2.1 0) (S.2.2.1 1) (S.1 0) (S.1 1) (S.2.1 8) (S.2.2.2.2.2) hq) ([0, 1, 2, 3, 27, 28, 29] ++ blk (30 + 33) 64) (pre_C (end_C rfl grp_len mrows_len rfl)) (blk_nd (by decide) (by decide)) (blk_f rfl mrows_f) (pre_S (k := 127) ob_len (by decide) (end_S rfl grp_len mrows_len mrows_len rfl (by decide) rfl))
noncomputable def o_bassCoefficient (p1 : Int32) (S : QS) : Option (Int64 × QS) := (f_X8_bassCoefficient p1 (S.2.2.1 0) (S.2.2.1 1) (S.1 0) (S.1 1) (S.2.1 8) (S.2.2.2.2.2)).map (fun q => (q.1, (S.1, (upf (S.2.1) 8 q.2.1), S.2.2.1, S.2.2.2.1, S.2.2.2.2.1, q.2.2)))
set_option maxHeartbeats 4000000 in
set_option maxRecDepth 100000 in
theorem co_bassCoefficient (g : GG) (l : Launch) (hx : Nat) (α : Nat → Nat) (p1 : Int32) (S : QS) {R : Int64 × QS} (hM : o_bassCoefficient p1 S = some R) : CT g l yX8_bassCoefficient cX8_bassCoefficient 2 (some .long) 4 102 [.ref hx, .int p1] (OB g hx α S ++ []) (OB g hx α R.2 ++ []) (some (.long R.1)) := by
  obtain ⟨q, hq, rfl⟩ := Option.map_eq_some_iff.mp hM
  exact ct_frame (c_X8_bassCoefficient g l hx (α 0) (α 4) (α 8) (α 9) (α 11) (α 14) (α 21) (α 23) (α 26) (α 1) (α 2) (α 3) (α 27) (α 28) (fun i => α (i + 62)) p1 (S.2.2.1 0) (S.2.2.1 1) (S.1 0) (S.1 1) (S.2.1 8) (S.2.2.2.2.2) hq) ([0, 1, 2, 3, 27, 28, 29] ++ blk (30 + 33) 64) (pre_C (end_C rfl grp_len mrows_len rfl)) (blk_nd (by decide) (by decide)) (blk_f rfl mrows_f) (pre_S (k := 127) ob_len (by decide) (end_S rfl grp_len mrows_len mrows_len rfl (by decide) rfl))
noncomputable def o_zetaCoefficient (p1 : Int32) (S : QS) : Option (Int64 × QS) := (f_X8_zetaCoefficient p1 (S.2.2.1 0) (S.2.2.1 1) (S.1 0) (S.1 1) (S.1 2) (S.2.1 0) (S.2.1 4) (S.2.1 5) (S.2.1 6) (S.2.1 7)).map (fun q => (q.1, (S.1, (upf ((upf ((upf ((upf ((upf (S.2.1) 0 q.2.1)) 4 q.2.2.1)) 5 q.2.2.2.1)) 6 q.2.2.2.2.1)) 7 q.2.2.2.2.2), S.2.2.1, S.2.2.2.1, S.2.2.2.2.1, S.2.2.2.2.2)))
set_option maxHeartbeats 4000000 in
set_option maxRecDepth 100000 in
theorem co_zetaCoefficient (g : GG) (l : Launch) (hx : Nat) (α : Nat → Nat) (p1 : Int32) (S : QS) {R : Int64 × QS} (hM : o_zetaCoefficient p1 S = some R) : CT g l yX8_zetaCoefficient cX8_zetaCoefficient 2 (some .long) 5 122 [.ref hx, .int p1] (OB g hx α S ++ []) (OB g hx α R.2 ++ []) (some (.long R.1)) := by
  obtain ⟨q, hq, rfl⟩ := Option.map_eq_some_iff.mp hM
  exact ct_frame (c_X8_zetaCoefficient g l hx (α 0) (α 4) (α 8) (α 9) (α 11) (α 14) (α 21) (α 23) (α 26) (α 1) (α 2) (α 3) (α 15) (α 16) (α 17) (α 18) (α 19) (α 20) (α 24) (α 25) p1 (S.2.2.1 0) (S.2.2.1 1) (S.1 0) (S.1 1) (S.1 2) (S.2.1 0) (S.2.1 4) (S.2.1 5) (S.2.1 6) (S.2.1 7) hq) [0, 1, 2, 3, 4, 15, 16, 20, 21, 24, 25, 26] (pre_C (pre_C rfl)) (by decide) rfl (pre_S (k := 127) ob_len (by decide) (pre_S (k := 30) rfl (by decide) rfl))
noncomputable def o_edgeValue (p1 : Int32) (S : QS) : Option (Int64 × QS) := (f_X8_edgeValue p1 (S.2.2.1 0) (S.2.2.1 1) (S.1 0) (S.1 1) (S.1 2) (S.2.1 0) (S.2.1 4) (S.2.1 5) (S.2.1 6)).map (fun q => (q.1, (S.1, (upf ((upf ((upf ((upf (S.2.1) 0 q.2.1)) 4 q.2.2.1)) 5 q.2.2.2.1)) 6 q.2.2.2.2), S.2.2.1, S.2.2.2.1, S.2.2.2.2.1, S.2.2.2.2.2)))
set_option maxHeartbeats 4000000 in
set_option maxRecDepth 100000 in
theorem co_edgeValue (g : GG) (l : Launch) (hx : Nat) (α : Nat → Nat) (p1 : Int32) (S : QS) {R : Int64 × QS} (hM : o_edgeValue p1 S = some R) : CT g l yX8_edgeValue cX8_edgeValue 2 (some .long) 5 122 [.ref hx, .int p1] (OB g hx α S ++ []) (OB g hx α R.2 ++ []) (some (.long R.1)) := by
  obtain ⟨q, hq, rfl⟩ := Option.map_eq_some_iff.mp hM
  exact ct_frame (c_X8_edgeValue g l hx (α 0) (α 4) (α 8) (α 9) (α 11) (α 14) (α 21) (α 23) (α 26) (α 1) (α 2) (α 3) (α 15) (α 16) (α 17) (α 18) (α 19) (α 20) (α 24) (α 25) p1 (S.2.2.1 0) (S.2.2.1 1) (S.1 0) (S.1 1) (S.1 2) (S.2.1 0) (S.2.1 4) (S.2.1 5) (S.2.1 6) hq) [0, 1, 2, 3, 4, 15, 16, 20, 21, 24, 25] (pre_C (pre_C rfl)) (by decide) rfl (pre_S (k := 127) ob_len (by decide) (pre_S (k := 30) rfl (by decide) rfl))
noncomputable def o_taylorAtOne (p1 : Int32) (S : QS) : Option (Int64 × QS) := (f_X8_taylorAtOne p1 (S.2.2.1 0) (S.2.2.1 1) (S.1 0) (S.1 1) (S.1 2) (S.2.1 0) (S.2.1 4) (S.2.1 5) (S.2.1 6) (S.2.1 7)).map (fun q => (q.1, (S.1, (upf ((upf ((upf ((upf ((upf (S.2.1) 0 q.2.1)) 4 q.2.2.1)) 5 q.2.2.2.1)) 6 q.2.2.2.2.1)) 7 q.2.2.2.2.2), S.2.2.1, S.2.2.2.1, S.2.2.2.2.1, S.2.2.2.2.2)))
set_option maxHeartbeats 4000000 in
set_option maxRecDepth 100000 in
theorem co_taylorAtOne (g : GG) (l : Launch) (hx : Nat) (α : Nat → Nat) (p1 : Int32) (S : QS) {R : Int64 × QS} (hM : o_taylorAtOne p1 S = some R) : CT g l yX8_taylorAtOne cX8_taylorAtOne 2 (some .long) 5 122 [.ref hx, .int p1] (OB g hx α S ++ []) (OB g hx α R.2 ++ []) (some (.long R.1)) := by
  obtain ⟨q, hq, rfl⟩ := Option.map_eq_some_iff.mp hM
  exact ct_frame (c_X8_taylorAtOne g l hx (α 0) (α 4) (α 8) (α 9) (α 11) (α 14) (α 21) (α 23) (α 26) (α 1) (α 2) (α 3) (α 15) (α 16) (α 17) (α 18) (α 19) (α 20) (α 24) (α 25) p1 (S.2.2.1 0) (S.2.2.1 1) (S.1 0) (S.1 1) (S.1 2) (S.2.1 0) (S.2.1 4) (S.2.1 5) (S.2.1 6) (S.2.1 7) hq) [0, 1, 2, 3, 4, 15, 16, 20, 21, 24, 25, 26] (pre_C (pre_C rfl)) (by decide) rfl (pre_S (k := 127) ob_len (by decide) (pre_S (k := 30) rfl (by decide) rfl))
noncomputable def o_edgeDegree (S : QS) : Option (Int32 × QS) := (f_X8_edgeDegree (S.2.2.1 0) (S.2.2.1 1) (S.1 0) (S.1 1) (S.1 2) (S.2.1 0) (S.2.1 4) (S.2.1 5) (S.2.1 6)).map (fun q => (q.1, (S.1, (upf ((upf ((upf ((upf (S.2.1) 0 q.2.1)) 4 q.2.2.1)) 5 q.2.2.2.1)) 6 q.2.2.2.2), S.2.2.1, S.2.2.2.1, S.2.2.2.2.1, S.2.2.2.2.2)))
set_option maxHeartbeats 4000000 in
set_option maxRecDepth 100000 in
theorem co_edgeDegree (g : GG) (l : Launch) (hx : Nat) (α : Nat → Nat) (S : QS) {R : Int32 × QS} (hM : o_edgeDegree  S = some R) : CT g l yX8_edgeDegree cX8_edgeDegree 1 (some .int) 5 122 [.ref hx] (OB g hx α S ++ []) (OB g hx α R.2 ++ []) (some (.int R.1)) := by
  obtain ⟨q, hq, rfl⟩ := Option.map_eq_some_iff.mp hM
  exact ct_frame (c_X8_edgeDegree g l hx (α 0) (α 4) (α 8) (α 9) (α 11) (α 14) (α 21) (α 23) (α 26) (α 1) (α 2) (α 3) (α 15) (α 16) (α 17) (α 18) (α 19) (α 20) (α 24) (α 25) (S.2.2.1 0) (S.2.2.1 1) (S.1 0) (S.1 1) (S.1 2) (S.2.1 0) (S.2.1 4) (S.2.1 5) (S.2.1 6) hq) [0, 1, 2, 3, 4, 15, 16, 20, 21, 24, 25] (pre_C (pre_C rfl)) (by decide) rfl (pre_S (k := 127) ob_len (by decide) (pre_S (k := 30) rfl (by decide) rfl))
noncomputable def o_spanningTrees (S : QS) : Option (Int32 × QS) := (f_X8_spanningTrees (S.2.2.1 0) (S.2.2.1 1) (S.1 0) (S.1 1) (S.1 2) (S.1 7) (S.1 8)).map (fun q => (q.1, ((upf ((upf (S.1) 7 q.2.1)) 8 q.2.2), S.2.1, S.2.2.1, S.2.2.2.1, S.2.2.2.2.1, S.2.2.2.2.2)))
set_option maxHeartbeats 4000000 in
set_option maxRecDepth 100000 in
theorem co_spanningTrees (g : GG) (l : Launch) (hx : Nat) (α : Nat → Nat) (S : QS) {R : Int32 × QS} (hM : o_spanningTrees  S = some R) : CT g l yX8_spanningTrees cX8_spanningTrees 1 (some .int) 4 96 [.ref hx] (OB g hx α S ++ []) (OB g hx α R.2 ++ []) (some (.int R.1)) := by
  obtain ⟨q, hq, rfl⟩ := Option.map_eq_some_iff.mp hM
  exact ct_frame (c_X8_spanningTrees g l hx (α 0) (α 4) (α 8) (α 9) (α 11) (α 14) (α 21) (α 23) (α 26) (α 1) (α 2) (α 3) (α 12) (α 13) (S.2.2.1 0) (S.2.2.1 1) (S.1 0) (S.1 1) (S.1 2) (S.1 7) (S.1 8) hq) [0, 1, 2, 3, 4, 12, 13, 14] (pre_C (pre_C rfl)) (by decide) rfl (pre_S (k := 127) ob_len (by decide) (pre_S (k := 30) rfl (by decide) rfl))
