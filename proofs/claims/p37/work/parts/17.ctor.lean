/-! constructors: new cells come at addresses that the call chooses -/
theorem va_P_iff {D : va_G} {cl : List vw_C} {ws : va_W} {H : Heap} : va_P D cl ws H ↔ ∀ q ∈ ws, va_at D cl q H := by
  constructor
  · intro h q hq
    obtain ⟨k, hk⟩ := List.getElem?_of_mem hq
    exact h k q hk
  · intro h k q hk
    exact h q (List.mem_of_getElem? hk)
theorem va_D_iff {A : Nat → Prop} {ws : va_W} : va_D A ws ↔ (ws.map (·.1)).Nodup ∧ ∀ q ∈ ws, A q.1 := by
  constructor
  · intro h
    refine ⟨?_, fun q hq => ?_⟩
    · refine List.pairwise_iff_getElem.mpr fun i j hi hj hij he => ?_
      rw [List.length_map] at hi hj
      rw [List.getElem_map, List.getElem_map] at he
      have := h.1 i j _ _ (List.getElem?_eq_getElem hi) (List.getElem?_eq_getElem hj) he
      omega
    · obtain ⟨k, hk⟩ := List.getElem?_of_mem hq
      exact h.2 k q hk
  · intro h
    refine ⟨fun i j x y hi hj hxy => ?_, fun k q hk => h.2 q (List.mem_of_getElem? hk)⟩
    have hn := List.pairwise_iff_getElem.mp h.1
    obtain ⟨hil, ei⟩ := List.getElem?_eq_some_iff.mp hi
    obtain ⟨hjl, ej⟩ := List.getElem?_eq_some_iff.mp hj
    have hil' : i < (ws.map (·.1)).length := by rw [List.length_map]; exact hil
    have hjl' : j < (ws.map (·.1)).length := by rw [List.length_map]; exact hjl
    rcases Nat.lt_trichotomy i j with hlt | heq | hgt
    · exact absurd (by rw [List.getElem_map, List.getElem_map, ei, ej]; exact hxy) (hn i j hil' hjl' hlt)
    · exact heq
    · exact absurd (by rw [List.getElem_map, List.getElem_map, ei, ej]; exact hxy.symm) (hn j i hjl' hil' hgt)
theorem perm_P {D : va_G} {cl : List vw_C} {ws ws' : va_W} {H : Heap} (h : ws.Perm ws') (hP : va_P D cl ws H) : va_P D cl ws' H := va_P_iff.mpr fun q hq => va_P_iff.mp hP q (h.mem_iff.mpr hq)
theorem perm_D {A : Nat → Prop} {ws ws' : va_W} (h : ws.Perm ws') (hD : va_D A ws) : va_D A ws' := by
  rw [va_D_iff] at hD ⊢
  exact ⟨(h.map (·.1)).nodup_iff.mp hD.1, fun q hq => hD.2 q (h.mem_iff.mpr hq)⟩
theorem perm_mid (P G : va_W) (x : Nat × va_E) : ((P ++ G) ++ [x]).Perm ((P ++ [x]) ++ G) := by
  rw [List.append_assoc, List.append_assoc]
  exact List.Perm.append_left P List.perm_append_comm
theorem perm_end (P Qq M G : va_W) : ((P ++ (Qq ++ M)) ++ G).Perm ((P ++ Qq) ++ (G ++ M)) := by
  have e : (P ++ (Qq ++ M)) ++ G = (P ++ Qq) ++ (M ++ G) := by simp only [List.append_assoc]
  rw [e]
  exact List.Perm.append_left _ List.perm_append_comm
abbrev rmn (fr mc ms lo : Nat) : Room := { frames := fr, cells := mc, slots := ms, locals := lo }
def CN (g : GG) (l : Launch) (y : MethodName) (cc : ByteArray) (n fr mc ms lo : Nat) (av : List Value) (ws : va_W) (B : (Nat → Nat) → va_W) : Prop :=
  ∀ sz, Met l y (Wds y cc n none) (rmn fr mc ms lo) (va_Pc av (Pre g ws sz)) (va_Qv (fun _ : Nat → Nat => True) (fun α t => va_P (gD g) vwCl (B α) t.heap ∧ va_D (va_A ws sz) (B α)) (va_A ws sz)) mc ms (va_A ws sz)
theorem cn_of {g : GG} {l : Launch} {y : MethodName} {cc : ByteArray} {n fr mc ms lo : Nat} {av : List Value} {ws : va_W} {B : (Nat → Nat) → va_W} (hy : plainName y.cls = true) (hn : (lg_sl av).length ≤ n) (hname : y.name = "<init>")
    (body : ∀ (p : Program) (e : Env) (s : State) (m : MethodId) (args : Array Value) (below : List Frame) (meth : Method) (c : Code) (Q : State → Prop) (A : Nat → Prop) (ls : Array Slot), Cx g p s m args c cc y.cls n → meth.name = "<init>" → va_P (gD g) vwCl ws s.heap → va_D A ws → (∀ q, s.heap.size ≤ q → A q) → lv_has ls n (lv_args 0 av) →
      (∀ (pc : Nat) (H : Heap) (locs : List Loc) (ls : Array Slot) (α : Nat → Nat), decode cc pc = .ok (.return_, 1) → va_P (gD g) vwCl (B α) H → va_D A (B α) → va_S A s.heap H locs → W p l e (rmn fr mc ms lo) s m args below meth c H locs mc ms Q (F0 m pc ls [])) →
      W p l e (rmn fr mc ms lo) s m args below meth c s.heap [] 0 0 Q (F0 m 0 ls [])) : CN g l y cc n fr mc ms lo av ws B := by
  intro sz
  refine Met.ofW (cc := cc) (maxL := n) (ret := none) hy rfl ?_
  intro p e s m args below meth c s₁ Bd hml hv
  obtain ⟨rfl, hsz, hP, hK, hD0⟩ := hv
  subst hsz
  have hts := atoms_spec (ws := Wds y cc n none) Bd.pre
  have hown : s.vm.findClass y.cls = some m.cls := findClass_of_methodNamed Bd.named
  have hlocks := Bd.notSynchronized
  have hr := Bd.returns
  have hin : meth.name = "<init>" := ((name_of_methodNamed Bd.named Bd.method).1).trans hname
  have hl := lv_entry av (n := n) hn
  rw [lg_entry_eq]
  refine body p e s m av.toArray below meth c _ (va_A ws s.heap.size) _ ⟨Bd.exec, Bd.bytes, hml, hown, fun w hw => hts w (List.mem_cons_of_mem _ hw), hK⟩ hin hP hD0.self (fun q h => Or.inr h) hl ?_
  intro pc H locs ls α hd hP2 hD2 hS
  exact W.vret Bd.exec Bd.bytes hr (fun t ht hW => ⟨⟨α, rfl, trivial, by rw [ht]; exact hP2, hD2⟩, hS.F ht⟩) hS.2.2 hd
section WCTOR
variable {g : GG} {p : Program} {l : Launch} {e : Env} {R : Room} {s : State} {m : MethodId} {args : Array Value} {below : List Frame} {meth : Method} {c : Code} {H : Heap} {locs : List Loc} {cells slots : Nat} {Q : State → Prop}
variable {cc : ByteArray} {own : String} {nL : Nat} {pc : Nat} {ls : Array Slot} {rest : List Value} {A : Nat → Prop} {a : Nat} {ws P G : va_W}
theorem w_putR (cx : Cx g p s m args c cc own nL) (hin : meth.name = "<init>") (hP : va_P (gD g) vwCl ws H) (hD : va_D A ws) (hS : va_S A s.heap H locs) (q0 ci k : Nat) {index : Nat} {C : String} {T : u_T} {N : Nat} {fs : List Value} {v : Nat} {ty : FieldType} (he : ws[q0]? = some (a, .inr (ci, fs))) (hc : vwCl[ci]? = some (C, T, N)) (hk : k < N) (hl : Cond.fieldLink own index C (T k).2.1 (T k).2.2.1 ∈ tbG) (hT : (T k).1 = C) (hfin : (T k).2.2.2 = true) (ho : C = own) (hd : parseFieldDescriptor (T k).2.2.1 = some ty) (hn : narrow ty (.ref v) = .ref v) (hf : fits ty (.ref v) = true) (hlen : k < fs.length) (hdg : decode cc pc = .ok (.putfield index, 3)) (ws2 : va_W) (hw : ws.set q0 (a, .inr (ci, fs.set k (.ref v))) = ws2)
    (kk : ∀ (H1 : Heap) (locs1 : List Loc), va_P (gD g) vwCl ws2 H1 → va_D A ws2 → va_S A s.heap H1 locs1 → W p l e R s m args below meth c H1 locs1 cells slots Q (F0 m (pc + 3) ls rest)) : W p l e R s m args below meth c H locs cells slots Q (F0 m pc ls (.ref v :: .ref a :: rest)) := by
  obtain ⟨⟨ty0, h1⟩, h2⟩ := ws_ty _ (List.mem_of_getElem? hc)
  exact va_putF cx.1 cx.2.1 cx.2.2.2.2.1 (ws_in _ (List.mem_of_getElem? hc)) ty0 h1 h2 cx.2.2.2.1 cx.2.2.2.2.2.1 hP hD hS q0 he hc k hk (cx.2.2.2.2.1 _ hl) (fun _ h => by rw [hT] at h; exact h) hfin hin (hT.trans ho) hd hn hf hlen hdg (fun H1 locs1 a b d => kk H1 locs1 (hw ▸ a) (hw ▸ b) d)
theorem w_newI (cx : Cx g p s m args c cc own nL) (hP : va_P (gD g) vwCl (P ++ G) H) (hD : va_D A (P ++ G)) (hS : va_S A s.heap H locs) (hA : ∀ q, s.heap.size ≤ q → A q) {n : Int32} {N' : Nat} (hn : ¬ n < 0) (hN : n.toNatClampNeg = N') (hbytes : N' * 4 ≤ 536870912) (hcells : cells + 1 ≤ R.cells) (hslots : slots + N' ≤ R.slots) (hdg : decode cc pc = .ok (.newarray .int, 2))
    (kk : ∀ (q : Nat) (H1 : Heap), va_P (gD g) vwCl ((P ++ [aI g q N' (fun _ => 0)]) ++ G) H1 → va_D A ((P ++ [aI g q N' (fun _ => 0)]) ++ G) → va_S A s.heap H1 locs → W p l e R s m args below meth c H1 locs (cells + 1) (slots + N') Q (F0 m (pc + 2) ls (.ref q :: rest))) : W p l e R s m args below meth c H locs cells slots Q (F0 m pc ls (.int n :: rest)) := by
  refine va_newa (atype := .int) (ty := .int) (a0 := (N', .inl (fun _ => 0))) cx.1 cx.2.1 (cx.2.2.2.2.1 _ m_72) rfl cx.2.2.2.2.2.1 hP hD hS hA (fun _ => rfl) hn hN hbytes hcells hslots hdg (fun q cA H1 hK2 hP2 hD2 hS2 => ?_)
  have e1 : s.vm.findClass ("[" ++ FieldType.int.toString) = some cA := (hK2.2 4 _ rfl).2
  have e2 : s.vm.findClass ("[" ++ FieldType.int.toString) = some g.2.2.1 := (cx.2.2.2.2.2.1.2 0 _ rfl).2
  obtain rfl : cA = g.2.2.1 := Option.some.inj (e1.symm.trans e2)
  exact kk q H1 (perm_P (perm_mid P G _) hP2) (perm_D (perm_mid P G _) hD2) hS2
theorem w_newJ (cx : Cx g p s m args c cc own nL) (hP : va_P (gD g) vwCl (P ++ G) H) (hD : va_D A (P ++ G)) (hS : va_S A s.heap H locs) (hA : ∀ q, s.heap.size ≤ q → A q) {n : Int32} {N' : Nat} (hn : ¬ n < 0) (hN : n.toNatClampNeg = N') (hbytes : N' * 8 ≤ 536870912) (hcells : cells + 1 ≤ R.cells) (hslots : slots + N' ≤ R.slots) (hdg : decode cc pc = .ok (.newarray .long, 2))
    (kk : ∀ (q : Nat) (H1 : Heap), va_P (gD g) vwCl ((P ++ [aJ g q N' (fun _ => 0)]) ++ G) H1 → va_D A ((P ++ [aJ g q N' (fun _ => 0)]) ++ G) → va_S A s.heap H1 locs → W p l e R s m args below meth c H1 locs (cells + 1) (slots + N') Q (F0 m (pc + 2) ls (.ref q :: rest))) : W p l e R s m args below meth c H locs cells slots Q (F0 m pc ls (.int n :: rest)) := by
  refine va_newa (atype := .long) (ty := .long) (a0 := (N', .inr (.inl (fun _ => 0)))) cx.1 cx.2.1 (cx.2.2.2.2.1 _ m_158) rfl cx.2.2.2.2.2.1 hP hD hS hA (fun _ => rfl) hn hN hbytes hcells hslots hdg (fun q cA H1 hK2 hP2 hD2 hS2 => ?_)
  have e1 : s.vm.findClass ("[" ++ FieldType.long.toString) = some cA := (hK2.2 4 _ rfl).2
  have e2 : s.vm.findClass ("[" ++ FieldType.long.toString) = some g.2.2.2.1 := (cx.2.2.2.2.2.1.2 1 _ rfl).2
  obtain rfl : cA = g.2.2.2.1 := Option.some.inj (e1.symm.trans e2)
  exact kk q H1 (perm_P (perm_mid P G _) hP2) (perm_D (perm_mid P G _) hD2) hS2
theorem w_newS (cx : Cx g p s m args c cc own nL) (hP : va_P (gD g) vwCl (P ++ G) H) (hD : va_D A (P ++ G)) (hS : va_S A s.heap H locs) (hA : ∀ q, s.heap.size ≤ q → A q) {n : Int32} {N' index : Nat} (hcl : Cond.classLink own index RX2 ∈ tbG) (hn : ¬ n < 0) (hN : n.toNatClampNeg = N') (hbytes : N' * 4 ≤ 536870912) (hcells : cells + 1 ≤ R.cells) (hslots : slots + N' ≤ R.slots) (hdg : decode cc pc = .ok (.anewarray index, 3))
    (kk : ∀ (q : Nat) (H1 : Heap), va_P (gD g) vwCl ((P ++ [aG g q N' (sv [])]) ++ G) H1 → va_D A ((P ++ [aG g q N' (sv [])]) ++ G) → va_S A s.heap H1 locs → W p l e R s m args below meth c H1 locs (cells + 1) (slots + N') Q (F0 m (pc + 3) ls (.ref q :: rest))) : W p l e R s m args below meth c H locs cells slots Q (F0 m pc ls (.int n :: rest)) := by
  refine va_newq (C := RX2) cx.1 cx.2.1 cx.2.2.2.1 (cx.2.2.2.2.1 _ hcl) cx.2.2.2.2.2.2.2.1 cx.2.2.2.2.2.1 hP hD hS hA hn hN hbytes hcells hslots hdg (fun q cA H1 hK2 hP2 hD2 hS2 => ?_)
  obtain ⟨-, -, -, -, -, e1⟩ := (hK2.2 4 _ rfl).2
  obtain ⟨-, -, -, -, -, e2⟩ := (cx.2.2.2.2.2.1.2 2 _ rfl).2
  obtain rfl : cA = g.2.2.2.2.1 := Option.some.inj (e1.symm.trans e2)
  exact kk q H1 (perm_P (perm_mid P G _) hP2) (perm_D (perm_mid P G _) hD2) hS2
theorem sv_push {L : List Nat} {v : Nat} : va_up (sv L) L.length (some v) = sv (L ++ [v]) := by
  funext k
  unfold va_up sv
  by_cases hk : k = L.length
  · subst hk; rw [if_pos rfl, List.getElem?_append_right (Nat.le_refl _), Nat.sub_self]; rfl
  · rw [if_neg hk]
    by_cases h2 : k < L.length
    · rw [List.getElem?_append_left h2]
    · rw [List.getElem?_eq_none (by omega), List.getElem?_eq_none (by rw [List.length_append]; simp; omega)]
theorem w_astS (cx : Cx g p s m args c cc own nL) (hP : va_P (gD g) vwCl ws H) (hD : va_D A ws) (hS : va_S A s.heap H locs) (q0 qk : Nat) {L : List Nat} (he : ws[q0]? = some (aG g a 8 (sv L))) {i : Int32} (hi : i.toNatClampNeg = L.length) (hin : inb i 8 = true) {v : Nat} {vs : List Value} (hv : ws[qk]? = some (v, .inr (2, vs))) (hdg : decode cc pc = .ok (.aastore, 1)) (ws2 : va_W) (hw : ws.set q0 (aG g a 8 (sv (L ++ [v]))) = ws2)
    (kk : ∀ (H1 : Heap) (locs1 : List Loc), va_P (gD g) vwCl ws2 H1 → va_D A ws2 → va_S A s.heap H1 locs1 → W p l e R s m args below meth c H1 locs1 cells slots Q (F0 m (pc + 1) ls rest)) : W p l e R s m args below meth c H locs cells slots Q (F0 m pc ls (.ref v :: .int i :: .ref a :: rest)) := by
  refine va_astq (r := (RX2, TX2, 5)) cx.1 cx.2.1 cx.2.2.2.2.2.1 hP hD hS q0 2 qk 2 he rfl hv rfl (inb_in hin) hdg (fun H1 locs1 a b d => ?_)
  rw [hi, sv_push] at a b
  exact kk H1 locs1 (hw ▸ a) (hw ▸ b) d
theorem w_newO (cx : Cx g p s m args c cc own nL) (hP : va_P (gD g) vwCl (P ++ G) H) (hD : va_D A (P ++ G)) (hS : va_S A s.heap H locs) (hA : ∀ q, s.heap.size ≤ q → A q) (ci : Nat) {C : String} {T : u_T} {N index : Nat} {fs : List Value} (hc : vwCl[ci]? = some (C, T, N)) (ty : Nat → FieldType) (hty : ∀ k, k < N → parseFieldDescriptor (T k).2.2.1 = some (ty k)) (hfs : ∀ j, j < N → defaultValue (ty j) = vp_V fs j) (hcl : Cond.classLink own index C ∈ tbG) (hinst : Cond.instantiable C N ∈ tbG) (hini : Cond.initialized C ∈ tbG) (hcells : cells + 1 ≤ R.cells) (hslots : slots + N ≤ R.slots) (hdg : decode cc pc = .ok (.new index, 3))
    (kk : ∀ (q : Nat) (H1 : Heap), va_P (gD g) vwCl ((P ++ [ob q ci fs]) ++ G) H1 → va_D A ((P ++ [ob q ci fs]) ++ G) → va_S A s.heap H1 locs → W p l e R s m args below meth c H1 locs (cells + 1) (slots + N) Q (F0 m (pc + 3) ls (.ref q :: rest))) : W p l e R s m args below meth c H locs cells slots Q (F0 m pc ls rest) :=
  va_new cx.1 cx.2.1 cx.2.2.2.2.1 (ws_in _ (List.mem_of_getElem? hc)) ty hty cx.2.2.2.1 (cx.2.2.2.2.1 _ hcl) (cx.2.2.2.2.1 _ hinst) (cx.2.2.2.2.1 _ hini) cx.2.2.2.2.2.1 hP hD hS hA hc hfs hcells hslots hdg (fun q H1 hP2 hD2 hS2 => kk q H1 (perm_P (perm_mid P G _) hP2) (perm_D (perm_mid P G _) hD2) hS2)
theorem w_runN {Pr : va_W} {x : Nat × va_E} {B : (Nat → Nat) → va_W} {mc ms : Nat} {st : List Value} (hP : va_P (gD g) vwCl ((Pr ++ [x]) ++ G) H) (hD : va_D A ((Pr ++ [x]) ++ G)) (hS : va_S A s.heap H locs) (hA : ∀ q, s.heap.size ≤ q → A q) {Av : Array Value}
    (hr : va_Run p l e R s m args below meth c H locs cells slots mc ms (F0 m pc ls st) rest (va_Qv (fun _ : Nat → Nat => True) (fun α t => va_P (gD g) vwCl (B α) t.heap ∧ va_D (va_A [x] H.size) (B α)) (va_A [x] H.size) Av) (va_A [x] H.size))
    (kk : ∀ (α : Nat → Nat) (H1 : Heap) (locs1 : List Loc), va_P (gD g) vwCl ((Pr ++ B α) ++ G) H1 → va_D A ((Pr ++ B α) ++ G) → va_S A s.heap H1 locs1 → W p l e R s m args below meth c H1 locs1 (cells + mc) (slots + ms) Q (F0 m (pc + 3) ls rest)) : W p l e R s m args below meth c H locs cells slots Q (F0 m pc ls st) := by
  have hxA : A x.1 := (va_D_iff.mp hD).2 x (by simp)
  have hfr : ∀ q, va_A [x] H.size q → A q := by
    intro q h
    rcases h with ⟨k, e, h⟩ | h
    · have : (q, e) ∈ [x] := List.mem_of_getElem? h
      rw [List.mem_singleton] at this
      subst this
      exact hxA
    · exact hA q (Nat.le_trans hS.1 h)
  refine va_callv hr hS (fun q _ h => hfr q h) hfr (fun α t H1 locs1 ht hvm _ hB hz hk hS1 => ?_)
  obtain ⟨hP1, hD1⟩ := hB
  rw [ht] at hP1
  have hPi := va_P_iff.mp hP
  have hDi := va_D_iff.mp hD
  have hP1i := va_P_iff.mp hP1
  have hD1i := va_D_iff.mp hD1
  have hperm : (((Pr ++ [x]) ++ G)).Perm (x :: (Pr ++ G)) := by
    rw [List.append_assoc]
    exact List.perm_middle
  have hnd := ((hperm.map (·.1)).nodup_iff.mp hDi.1)
  rw [List.map_cons, List.nodup_cons] at hnd
  have hold : ∀ q ∈ Pr ++ G, q.1 ≠ x.1 ∧ q.1 < H.size := by
    intro q hq
    have hm : q ∈ (Pr ++ [x]) ++ G := hperm.mem_iff.mpr (List.mem_cons_of_mem _ hq)
    refine ⟨fun h => hnd.1 (h ▸ List.mem_map.mpr ⟨q, hq, rfl⟩), ?_⟩
    obtain ⟨k, hk⟩ := List.getElem?_of_mem hm
    exact (hP k q hk).lt
  have hnew : ∀ q ∈ B α, q.1 = x.1 ∨ H.size ≤ q.1 := by
    intro q hq
    rcases hD1i.2 q hq with ⟨k, e, h⟩ | h
    · have : (q.1, e) ∈ [x] := List.mem_of_getElem? h
      rw [List.mem_singleton] at this
      exact Or.inl (by rw [← this])
    · exact Or.inr h
  have hperm2 : ((Pr ++ B α) ++ G).Perm (B α ++ (Pr ++ G)) := by
    rw [← List.append_assoc (B α)]
    exact List.Perm.append_right G List.perm_append_comm
  refine kk α H1 locs1 (perm_P hperm2.symm (va_P_iff.mpr fun q hq => ?_)) (perm_D hperm2.symm (va_D_iff.mpr ⟨?_, fun q hq => ?_⟩)) hS1
  · rcases List.mem_append.mp hq with h | h
    · exact hP1i q h
    · obtain ⟨h1, h2⟩ := hold q h
      refine (hPi q (hperm.mem_iff.mpr (List.mem_cons_of_mem _ h))).kept (hk q.1 h2 fun hA1 => ?_)
      rcases hA1 with ⟨k, e, h3⟩ | h3
      · have : (q.1, e) ∈ [x] := List.mem_of_getElem? h3
        rw [List.mem_singleton] at this
        exact h1 (by rw [← this])
      · omega
  · rw [List.map_append, List.nodup_append]
    refine ⟨hD1i.1, hnd.2, ?_⟩
    intro u hu v hv
    obtain ⟨q, hq, rfl⟩ := List.mem_map.mp hu
    obtain ⟨r, hr', rfl⟩ := List.mem_map.mp hv
    obtain ⟨h1, h2⟩ := hold r hr'
    rcases hnew q hq with h | h
    · exact fun e => h1 (e ▸ h)
    · exact fun e => by rw [e] at h; omega
  · rcases List.mem_append.mp hq with h | h
    · exact hfr _ (hD1i.2 q h)
    · exact hDi.2 q (hperm.mem_iff.mpr (List.mem_cons_of_mem _ h))
theorem w_goodN {y : MethodName} {cc' : ByteArray} {n' : Nat} {ret : Option FieldType} (h : Cond.code y cc' n' ret ∈ tbG) : GoodIn tbG (Wds y cc' n' ret) := w_good h
theorem w_callNN (cx : Cx g p s m args c cc own nL) {Pr : va_W} {x : Nat × va_E} {B : (Nat → Nat) → va_W} {mc ms : Nat} (hP : va_P (gD g) vwCl ((Pr ++ [x]) ++ G) H) (hD : va_D A ((Pr ++ [x]) ++ G)) (hS : va_S A s.heap H locs) (hA : ∀ q, s.heap.size ≤ q → A q) {y : MethodName} {cc' : ByteArray} {n' fr lo : Nat} (hM : CN g l y cc' n' fr mc ms lo [.ref x.1] [x] B) {idx : Nat} {host : String} (hy : yq y 0) (hname : y.name = "<init>") (m1 : Cond.methodLinkNest own idx y host ∈ nwL) (m2 : Cond.instanceMethod y ∈ tbG) (m4 : Cond.initialized y.cls ∈ tbG) (m5 : Cond.code y cc' n' none ∈ tbG) (hR : fr + 1 ≤ R.frames ∧ 8 + (n' + 11) + lo ≤ R.locals) (hls : ls.size = nL) (hW : (rest.map fun v => v.category).sum ≤ 8) (hdg : decode cc pc = .ok (.invokespecial idx, 3)) (hcs : cells + mc ≤ R.cells ∧ slots + ms ≤ R.slots)
    (kk : ∀ (α : Nat → Nat) (H1 : Heap) (locs1 : List Loc), va_P (gD g) vwCl ((Pr ++ B α) ++ G) H1 → va_D A ((Pr ++ B α) ++ G) → va_S A s.heap H1 locs1 → W p l e R s m args below meth c H1 locs1 (cells + mc) (slots + ms) Q (F0 m (pc + 3) ls rest)) : W p l e R s m args below meth c H locs cells slots Q (F0 m pc ls (.ref x.1 :: rest)) := by
  have hPi := va_P_iff.mp hP
  have hDi := va_D_iff.mp hD
  have hx : x ∈ (Pr ++ [x]) ++ G := by simp
  have hPc : va_P (gD g) vwCl [x] H := va_P_iff.mpr fun q hq => by rw [List.mem_singleton] at hq; subst hq; exact hPi _ hx
  have hDc : va_D (fun _ => True) [x] := va_D_iff.mpr ⟨by simp, fun _ _ => trivial⟩
  exact w_runN hP hD hS hA (va_runIN (As := []) (rest := rest) ⟨cx.1, cx.2.1, cx.2.2.1, cx.2.2.2.1, cx.2.2.2.2.1⟩ (hM H.size) ⟨va_cnB 0 cx.2.2.2.2.1 (w_good m5) rfl rfl rfl (cx.2.2.2.2.2.2.1 _ m1) (cx.2.2.2.2.1 _ m4) hy hR, hname, cx.2.2.2.2.1 _ m2⟩
    ⟨Pre.blind, fun U hU hW => ⟨rfl, by rw [hU], by rw [hU]; exact hPc, cx.2.2.2.2.2.warm hW, hDc⟩⟩ rfl rfl hls rfl (lv_room hW) hdg hcs) kk
theorem w_callN (cx : Cx g p s m args c cc own nL) {Pr : va_W} {x : Nat × va_E} {B : (Nat → Nat) → va_W} {mc ms : Nat} (hP : va_P (gD g) vwCl ((Pr ++ [x]) ++ G) H) (hD : va_D A ((Pr ++ [x]) ++ G)) (hS : va_S A s.heap H locs) (hA : ∀ q, s.heap.size ≤ q → A q) {y : MethodName} {cc' : ByteArray} {n' fr lo : Nat} (hM : CN g l y cc' n' fr mc ms lo [.ref x.1] [x] B) {idx : Nat} (hy : yq y 0) (hname : y.name = "<init>") (m1 : Cond.methodLink own idx y ∈ tbG) (m2 : Cond.instanceMethod y ∈ tbG) (m4 : Cond.initialized y.cls ∈ tbG) (m5 : Cond.code y cc' n' none ∈ tbG) (hR : fr + 1 ≤ R.frames ∧ 8 + (n' + 11) + lo ≤ R.locals) (hls : ls.size = nL) (hW : (rest.map fun v => v.category).sum ≤ 8) (hdg : decode cc pc = .ok (.invokespecial idx, 3)) (hcs : cells + mc ≤ R.cells ∧ slots + ms ≤ R.slots)
    (kk : ∀ (α : Nat → Nat) (H1 : Heap) (locs1 : List Loc), va_P (gD g) vwCl ((Pr ++ B α) ++ G) H1 → va_D A ((Pr ++ B α) ++ G) → va_S A s.heap H1 locs1 → W p l e R s m args below meth c H1 locs1 (cells + mc) (slots + ms) Q (F0 m (pc + 3) ls rest)) : W p l e R s m args below meth c H locs cells slots Q (F0 m pc ls (.ref x.1 :: rest)) := by
  have hPi := va_P_iff.mp hP
  have hx : x ∈ (Pr ++ [x]) ++ G := by simp
  have hPc : va_P (gD g) vwCl [x] H := va_P_iff.mpr fun q hq => by rw [List.mem_singleton] at hq; subst hq; exact hPi _ hx
  have hDc : va_D (fun _ => True) [x] := va_D_iff.mpr ⟨by simp, fun _ _ => trivial⟩
  exact w_runN hP hD hS hA (va_runI (As := []) (rest := rest) ⟨cx.1, cx.2.1, cx.2.2.1, cx.2.2.2.1, cx.2.2.2.2.1⟩ (hM H.size) ⟨callB_of 0 cx.2.2.2.2.1 (w_good m5) rfl rfl rfl (cx.2.2.2.2.1 _ m4) (cx.2.2.2.2.1 _ m1) hy hR, hname, cx.2.2.2.2.1 _ m2⟩
    ⟨Pre.blind, fun U hU hW => ⟨rfl, by rw [hU], by rw [hU]; exact hPc, cx.2.2.2.2.2.warm hW, hDc⟩⟩ rfl rfl hls rfl (lv_room hW) hdg hcs) kk
theorem mrows_of {r : Nat → Nat} {f : Nat → va_E} : va_pl ([] ++ (List.range 64).map r) (vr_up f ((List.range 64).map r) (.inl (g.2.2.2.1, 13, .inr (.inl (fun _ => 0))))) = mrows g r (fun _ _ => 0) := by
  unfold va_pl mrows
  rw [List.nil_append, List.map_map]
  apply List.map_congr_left
  intro i hi
  show (r i, vr_up f ((List.range 64).map r) _ (r i)) = _
  rw [vr_up_in (List.mem_map.mpr ⟨i, hi, rfl⟩)]
theorem w_newM (cx : Cx g p s m args c cc own nL) (hP : va_P (gD g) vwCl (P ++ []) H) (hD : va_D A (P ++ [])) (hS : va_S A s.heap H locs) (hA : ∀ q, s.heap.size ≤ q → A q) {index : Nat} (hcl : Cond.classLink own index "[[J" ∈ tbG) (hcells : cells + (1 + 64) ≤ R.cells) (hslots : slots + (64 + 64 * 13) ≤ R.slots) (hdg : decode cc pc = .ok (.multianewarray index 2, 4))
    (kk : ∀ (q : Nat) (r : Nat → Nat) (H1 : Heap), va_P (gD g) vwCl ((P ++ [aM g q 64 (mref r)]) ++ mrows g r (fun _ _ => 0)) H1 → va_D A ((P ++ [aM g q 64 (mref r)]) ++ mrows g r (fun _ _ => 0)) → va_S A s.heap H1 locs → W p l e R s m args below meth c H1 locs (cells + 1 + 64) (slots + 64 + 64 * 13) Q (F0 m (pc + 4) ls (.ref q :: rest))) : W p l e R s m args below meth c H locs cells slots Q (F0 m pc ls (.int (nI 13) :: .int (nI 64) :: rest)) := by
  have e0 : ("[" ++ (FieldType.array FieldType.long).toString) = "[[J" := by decide +kernel
  have hcl' : (Cond.classLink own index ("[" ++ (FieldType.array FieldType.long).toString)).before args s = true := by rw [e0]; exact cx.2.2.2.2.1 _ hcl
  have hcy : s.vm.findClass (FieldType.array FieldType.long).toString = some g.2.2.2.1 := (cx.2.2.2.2.2.1.2 1 _ rfl).2
  refine va_mna (X := P) (L := []) (f := fun _ => .inr (0, [])) (ty := .long) (cy := g.2.2.2.1) (N' := 64) (K' := 13) (z := (13, .inr (.inl (fun _ => 0)))) cx.1 cx.2.1 cx.2.2.2.1 hcl' cx.2.2.2.2.2.2.2.2 (cx.2.2.2.2.1 _ m_158) hcy cx.2.2.2.2.2.1 hP hD hS hA (by decide) (by decide) (by decide) (by decide) (by decide) (by decide) (by decide) rfl rfl hcells hslots (fun c => ?_) hdg (fun q r cA H1 _ _ hK2 hP2 hD2 hS2 => ?_)
  · rw [vp_cell_l]; unfold Jvm.Free.Multi.innerC; exact arrV_new ..
  · have e1 : s.vm.findClass ("[" ++ (FieldType.array FieldType.long).toString) = some cA := (hK2.2 4 _ rfl).2
    have e2 : s.vm.findClass ("[" ++ (FieldType.array FieldType.long).toString) = some g.2.2.2.2.2 := (cx.2.2.2.2.2.1.2 3 _ rfl).2
    obtain rfl : cA = g.2.2.2.2.2 := Option.some.inj (e1.symm.trans e2)
    rw [mrows_of] at hP2 hD2
    exact kk q r H1 hP2 hD2 hS2
end WCTOR
