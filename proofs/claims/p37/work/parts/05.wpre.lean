/-! worlds in one form, and the rows over them -/
theorem va_AOA.moved {t : FieldType} {u U : State} (hvm : u.vm.Alike U.vm) (h : va_AOA t u) : va_AOA t U := by
  obtain ⟨comp, c, k, h1, h2, h3, h4, h5⟩ := arrayOverA_spec h
  obtain ⟨k', hk', he⟩ := hvm.2.2 _ _ h3
  have hi : (U.vm.classes.findIdx? fun (x : Class) => match x.kind with | .array component _ => component == comp | _ => false) = some c := by
    refine (va_idx_bare U.vm comp).symm.trans ?_
    first | rw [hvm.bare_eq] | rw [← hvm.bare_eq]
    exact (va_idx_bare u.vm comp).trans h2
  have hkind : k'.kind = .array comp (.array t) := by rw [he]; exact h4
  have f1 : U.vm.findClass (FieldType.array t).toString = some comp := by rw [hvm.findClass]; exact h1
  have f2 : U.vm.findClass ("[" ++ (FieldType.array t).toString) = some c := by rw [hvm.findClass]; exact h5
  unfold va_AOA Cond.before Cond.holds
  simp only [Cond.value]
  rw [f1, Option.bind_some]
  refine (congrArg (fun o : Option Nat => (o.bind (fun c => (U.vm.classes[c]?).map fun (k : Class) => match k.kind with | .array _ ty => decide (ty = FieldType.array t) && decide (U.vm.findClass ("[" ++ (FieldType.array t).toString) = some c) | _ => false) == some true)) hi).trans ?_
  simp [hk', hkind, f2]
abbrev GG : Type := (Nat → ClassId) × (Nat → Nat → Nat) × ClassId × ClassId × ClassId × ClassId
abbrev gD (g : GG) : va_G := (g.1, g.2.1)
abbrev gT (g : GG) : List (ClassId × FieldType) := [(g.2.2.1, .int), (g.2.2.2.1, .long), (g.2.2.2.2.1, .object RX2), (g.2.2.2.2.2, .array .long)]
abbrev aI (g : GG) (a n : Nat) (f : Nat → Int32) : Nat × va_E := (a, .inl (g.2.2.1, n, .inl f))
abbrev aJ (g : GG) (a n : Nat) (f : Nat → Int64) : Nat × va_E := (a, .inl (g.2.2.2.1, n, .inr (.inl f)))
abbrev aG (g : GG) (a n : Nat) (f : Nat → Option Nat) : Nat × va_E := (a, .inl (g.2.2.2.2.1, n, .inr (.inr (.inr (.inr f)))))
abbrev aM (g : GG) (a n : Nat) (f : Nat → Option Nat) : Nat × va_E := (a, .inl (g.2.2.2.2.2, n, .inr (.inr (.inr (.inr f)))))
abbrev ob (a ci : Nat) (fs : List Value) : Nat × va_E := (a, .inr (ci, fs))
def nwL : List Cond := [Cond.methodLinkNest "IharaZeta" 11 ⟨"IharaZeta$Graph","<init>","()V"⟩ "IharaZeta", Cond.fieldLinkNest "IharaZeta$Grouping" 21 "IharaZeta$Graph" "vertices" "I" "IharaZeta", Cond.fieldLinkNest "IharaZeta" 70 "IharaZeta$Graph" "vertices" "I" "IharaZeta", Cond.fieldLinkNest "IharaZeta$VertexPolynomial" 26 "IharaZeta$Graph" "vertices" "I" "IharaZeta", Cond.fieldLinkNest "IharaZeta$Grouping" 27 "IharaZeta$Graph" "edges" "I" "IharaZeta", Cond.fieldLinkNest "IharaZeta" 94 "IharaZeta$Graph" "edges" "I" "IharaZeta", Cond.fieldLinkNest "IharaZeta$PrimeSearch" 32 "IharaZeta$Graph" "edges" "I" "IharaZeta", Cond.fieldLinkNest "IharaZeta$WalkCounter" 50 "IharaZeta$Graph" "edges" "I" "IharaZeta", Cond.fieldLinkNest "IharaZeta$Grouping" 47 "IharaZeta$Graph" "firsts" "[I" "IharaZeta", Cond.fieldLinkNest "IharaZeta$Grouping" 50 "IharaZeta$Graph" "seconds" "[I" "IharaZeta", Cond.fieldLinkNest "IharaZeta$PrimeSearch" 23 "IharaZeta$Graph" "signs" "[I" "IharaZeta", Cond.fieldLinkNest "IharaZeta" 103 "IharaZeta$Graph" "signs" "[I" "IharaZeta", Cond.fieldLinkNest "IharaZeta$WalkCounter" 66 "IharaZeta$Graph" "signs" "[I" "IharaZeta", Cond.fieldLinkNest "IharaZeta$Grouping" 53 "IharaZeta$Graph" "signs" "[I" "IharaZeta", Cond.methodLinkNest "IharaZeta$History" 21 ⟨"IharaZeta$Graph","<init>","()V"⟩ "IharaZeta", Cond.fieldLinkNest "IharaZeta" 119 "IharaZeta$History" "count" "I" "IharaZeta", Cond.methodLinkNest "IharaZeta" 30 ⟨"IharaZeta$EdgeText","<init>","()V"⟩ "IharaZeta", Cond.fieldLinkNest "IharaZeta" 107 "IharaZeta$EdgeText" "length" "I" "IharaZeta", Cond.methodLinkNest "IharaZeta" 37 ⟨"IharaZeta$Grouping","<init>","()V"⟩ "IharaZeta", Cond.methodLinkNest "IharaZeta" 44 ⟨"IharaZeta$WalkCounter","<init>","()V"⟩ "IharaZeta", Cond.fieldLinkNest "IharaZeta" 154 "IharaZeta$WalkCounter" "closed" "[J" "IharaZeta", Cond.fieldLinkNest "IharaZeta" 161 "IharaZeta$WalkCounter" "closedSigned" "[J" "IharaZeta", Cond.fieldLinkNest "IharaZeta" 167 "IharaZeta$WalkCounter" "primitive" "[J" "IharaZeta", Cond.fieldLinkNest "IharaZeta" 173 "IharaZeta$WalkCounter" "primitiveSigned" "[J" "IharaZeta", Cond.methodLinkNest "IharaZeta" 51 ⟨"IharaZeta$PrimeSearch","<init>","()V"⟩ "IharaZeta", Cond.fieldLinkNest "IharaZeta" 189 "IharaZeta$PrimeSearch" "word" "[I" "IharaZeta", Cond.methodLinkNest "IharaZeta" 58 ⟨"IharaZeta$EdgePolynomial","<init>","()V"⟩ "IharaZeta", Cond.fieldLinkNest "IharaZeta" 202 "IharaZeta$EdgePolynomial" "coefficients" "[J" "IharaZeta", Cond.methodLinkNest "IharaZeta" 65 ⟨"IharaZeta$VertexPolynomial","<init>","()V"⟩ "IharaZeta", Cond.fieldLinkNest "IharaZeta" 211 "IharaZeta$VertexPolynomial" "coefficients" "[J" "IharaZeta"]
theorem nwL_warm : ∀ w ∈ nwL, ∀ {s U : State}, s.WarmedH U.vm → va_Nw w s → va_Nw w U := List.forall_mem_cons.mpr ⟨fun {_ _} a b => va_Nw.warmM a b, List.forall_mem_cons.mpr ⟨fun {_ _} a b => va_Nw.warmF a b, List.forall_mem_cons.mpr ⟨fun {_ _} a b => va_Nw.warmF a b, List.forall_mem_cons.mpr ⟨fun {_ _} a b => va_Nw.warmF a b, List.forall_mem_cons.mpr ⟨fun {_ _} a b => va_Nw.warmF a b, List.forall_mem_cons.mpr ⟨fun {_ _} a b => va_Nw.warmF a b, List.forall_mem_cons.mpr ⟨fun {_ _} a b => va_Nw.warmF a b, List.forall_mem_cons.mpr ⟨fun {_ _} a b => va_Nw.warmF a b, List.forall_mem_cons.mpr ⟨fun {_ _} a b => va_Nw.warmF a b, List.forall_mem_cons.mpr ⟨fun {_ _} a b => va_Nw.warmF a b, List.forall_mem_cons.mpr ⟨fun {_ _} a b => va_Nw.warmF a b, List.forall_mem_cons.mpr ⟨fun {_ _} a b => va_Nw.warmF a b, List.forall_mem_cons.mpr ⟨fun {_ _} a b => va_Nw.warmF a b, List.forall_mem_cons.mpr ⟨fun {_ _} a b => va_Nw.warmF a b, List.forall_mem_cons.mpr ⟨fun {_ _} a b => va_Nw.warmM a b, List.forall_mem_cons.mpr ⟨fun {_ _} a b => va_Nw.warmF a b, List.forall_mem_cons.mpr ⟨fun {_ _} a b => va_Nw.warmM a b, List.forall_mem_cons.mpr ⟨fun {_ _} a b => va_Nw.warmF a b, List.forall_mem_cons.mpr ⟨fun {_ _} a b => va_Nw.warmM a b, List.forall_mem_cons.mpr ⟨fun {_ _} a b => va_Nw.warmM a b, List.forall_mem_cons.mpr ⟨fun {_ _} a b => va_Nw.warmF a b, List.forall_mem_cons.mpr ⟨fun {_ _} a b => va_Nw.warmF a b, List.forall_mem_cons.mpr ⟨fun {_ _} a b => va_Nw.warmF a b, List.forall_mem_cons.mpr ⟨fun {_ _} a b => va_Nw.warmF a b, List.forall_mem_cons.mpr ⟨fun {_ _} a b => va_Nw.warmM a b, List.forall_mem_cons.mpr ⟨fun {_ _} a b => va_Nw.warmF a b, List.forall_mem_cons.mpr ⟨fun {_ _} a b => va_Nw.warmM a b, List.forall_mem_cons.mpr ⟨fun {_ _} a b => va_Nw.warmF a b, List.forall_mem_cons.mpr ⟨fun {_ _} a b => va_Nw.warmM a b, List.forall_mem_cons.mpr ⟨fun {_ _} a b => va_Nw.warmF a b, fun _ h => absurd h List.not_mem_nil⟩⟩⟩⟩⟩⟩⟩⟩⟩⟩⟩⟩⟩⟩⟩⟩⟩⟩⟩⟩⟩⟩⟩⟩⟩⟩⟩⟩⟩⟩
theorem nwL_tab : ∀ w ∈ nwL, w.onTables = true := List.forall_mem_cons.mpr ⟨rfl, List.forall_mem_cons.mpr ⟨rfl, List.forall_mem_cons.mpr ⟨rfl, List.forall_mem_cons.mpr ⟨rfl, List.forall_mem_cons.mpr ⟨rfl, List.forall_mem_cons.mpr ⟨rfl, List.forall_mem_cons.mpr ⟨rfl, List.forall_mem_cons.mpr ⟨rfl, List.forall_mem_cons.mpr ⟨rfl, List.forall_mem_cons.mpr ⟨rfl, List.forall_mem_cons.mpr ⟨rfl, List.forall_mem_cons.mpr ⟨rfl, List.forall_mem_cons.mpr ⟨rfl, List.forall_mem_cons.mpr ⟨rfl, List.forall_mem_cons.mpr ⟨rfl, List.forall_mem_cons.mpr ⟨rfl, List.forall_mem_cons.mpr ⟨rfl, List.forall_mem_cons.mpr ⟨rfl, List.forall_mem_cons.mpr ⟨rfl, List.forall_mem_cons.mpr ⟨rfl, List.forall_mem_cons.mpr ⟨rfl, List.forall_mem_cons.mpr ⟨rfl, List.forall_mem_cons.mpr ⟨rfl, List.forall_mem_cons.mpr ⟨rfl, List.forall_mem_cons.mpr ⟨rfl, List.forall_mem_cons.mpr ⟨rfl, List.forall_mem_cons.mpr ⟨rfl, List.forall_mem_cons.mpr ⟨rfl, List.forall_mem_cons.mpr ⟨rfl, List.forall_mem_cons.mpr ⟨rfl, fun _ h => absurd h List.not_mem_nil⟩⟩⟩⟩⟩⟩⟩⟩⟩⟩⟩⟩⟩⟩⟩⟩⟩⟩⟩⟩⟩⟩⟩⟩⟩⟩⟩⟩⟩⟩
theorem n_39 : Cond.methodLinkNest "IharaZeta" 11 ⟨"IharaZeta$Graph","<init>","()V"⟩ "IharaZeta" ∈ nwL := List.mem_of_getElem? (i := 0) rfl
theorem n_44 : Cond.fieldLinkNest "IharaZeta$Grouping" 21 "IharaZeta$Graph" "vertices" "I" "IharaZeta" ∈ nwL := List.mem_of_getElem? (i := 1) rfl
theorem n_45 : Cond.fieldLinkNest "IharaZeta" 70 "IharaZeta$Graph" "vertices" "I" "IharaZeta" ∈ nwL := List.mem_of_getElem? (i := 2) rfl
theorem n_46 : Cond.fieldLinkNest "IharaZeta$VertexPolynomial" 26 "IharaZeta$Graph" "vertices" "I" "IharaZeta" ∈ nwL := List.mem_of_getElem? (i := 3) rfl
theorem n_48 : Cond.fieldLinkNest "IharaZeta$Grouping" 27 "IharaZeta$Graph" "edges" "I" "IharaZeta" ∈ nwL := List.mem_of_getElem? (i := 4) rfl
theorem n_49 : Cond.fieldLinkNest "IharaZeta" 94 "IharaZeta$Graph" "edges" "I" "IharaZeta" ∈ nwL := List.mem_of_getElem? (i := 5) rfl
theorem n_50 : Cond.fieldLinkNest "IharaZeta$PrimeSearch" 32 "IharaZeta$Graph" "edges" "I" "IharaZeta" ∈ nwL := List.mem_of_getElem? (i := 6) rfl
theorem n_51 : Cond.fieldLinkNest "IharaZeta$WalkCounter" 50 "IharaZeta$Graph" "edges" "I" "IharaZeta" ∈ nwL := List.mem_of_getElem? (i := 7) rfl
theorem n_53 : Cond.fieldLinkNest "IharaZeta$Grouping" 47 "IharaZeta$Graph" "firsts" "[I" "IharaZeta" ∈ nwL := List.mem_of_getElem? (i := 8) rfl
theorem n_55 : Cond.fieldLinkNest "IharaZeta$Grouping" 50 "IharaZeta$Graph" "seconds" "[I" "IharaZeta" ∈ nwL := List.mem_of_getElem? (i := 9) rfl
theorem n_57 : Cond.fieldLinkNest "IharaZeta$PrimeSearch" 23 "IharaZeta$Graph" "signs" "[I" "IharaZeta" ∈ nwL := List.mem_of_getElem? (i := 10) rfl
theorem n_58 : Cond.fieldLinkNest "IharaZeta" 103 "IharaZeta$Graph" "signs" "[I" "IharaZeta" ∈ nwL := List.mem_of_getElem? (i := 11) rfl
theorem n_59 : Cond.fieldLinkNest "IharaZeta$WalkCounter" 66 "IharaZeta$Graph" "signs" "[I" "IharaZeta" ∈ nwL := List.mem_of_getElem? (i := 12) rfl
theorem n_60 : Cond.fieldLinkNest "IharaZeta$Grouping" 53 "IharaZeta$Graph" "signs" "[I" "IharaZeta" ∈ nwL := List.mem_of_getElem? (i := 13) rfl
theorem n_81 : Cond.methodLinkNest "IharaZeta$History" 21 ⟨"IharaZeta$Graph","<init>","()V"⟩ "IharaZeta" ∈ nwL := List.mem_of_getElem? (i := 14) rfl
theorem n_83 : Cond.fieldLinkNest "IharaZeta" 119 "IharaZeta$History" "count" "I" "IharaZeta" ∈ nwL := List.mem_of_getElem? (i := 15) rfl
theorem n_92 : Cond.methodLinkNest "IharaZeta" 30 ⟨"IharaZeta$EdgeText","<init>","()V"⟩ "IharaZeta" ∈ nwL := List.mem_of_getElem? (i := 16) rfl
theorem n_97 : Cond.fieldLinkNest "IharaZeta" 107 "IharaZeta$EdgeText" "length" "I" "IharaZeta" ∈ nwL := List.mem_of_getElem? (i := 17) rfl
theorem n_118 : Cond.methodLinkNest "IharaZeta" 37 ⟨"IharaZeta$Grouping","<init>","()V"⟩ "IharaZeta" ∈ nwL := List.mem_of_getElem? (i := 18) rfl
theorem n_131 : Cond.methodLinkNest "IharaZeta" 44 ⟨"IharaZeta$WalkCounter","<init>","()V"⟩ "IharaZeta" ∈ nwL := List.mem_of_getElem? (i := 19) rfl
theorem n_136 : Cond.fieldLinkNest "IharaZeta" 154 "IharaZeta$WalkCounter" "closed" "[J" "IharaZeta" ∈ nwL := List.mem_of_getElem? (i := 20) rfl
theorem n_138 : Cond.fieldLinkNest "IharaZeta" 161 "IharaZeta$WalkCounter" "closedSigned" "[J" "IharaZeta" ∈ nwL := List.mem_of_getElem? (i := 21) rfl
theorem n_140 : Cond.fieldLinkNest "IharaZeta" 167 "IharaZeta$WalkCounter" "primitive" "[J" "IharaZeta" ∈ nwL := List.mem_of_getElem? (i := 22) rfl
theorem n_142 : Cond.fieldLinkNest "IharaZeta" 173 "IharaZeta$WalkCounter" "primitiveSigned" "[J" "IharaZeta" ∈ nwL := List.mem_of_getElem? (i := 23) rfl
theorem n_161 : Cond.methodLinkNest "IharaZeta" 51 ⟨"IharaZeta$PrimeSearch","<init>","()V"⟩ "IharaZeta" ∈ nwL := List.mem_of_getElem? (i := 24) rfl
theorem n_166 : Cond.fieldLinkNest "IharaZeta" 189 "IharaZeta$PrimeSearch" "word" "[I" "IharaZeta" ∈ nwL := List.mem_of_getElem? (i := 25) rfl
theorem n_175 : Cond.methodLinkNest "IharaZeta" 58 ⟨"IharaZeta$EdgePolynomial","<init>","()V"⟩ "IharaZeta" ∈ nwL := List.mem_of_getElem? (i := 26) rfl
theorem n_180 : Cond.fieldLinkNest "IharaZeta" 202 "IharaZeta$EdgePolynomial" "coefficients" "[J" "IharaZeta" ∈ nwL := List.mem_of_getElem? (i := 27) rfl
theorem n_189 : Cond.methodLinkNest "IharaZeta" 65 ⟨"IharaZeta$VertexPolynomial","<init>","()V"⟩ "IharaZeta" ∈ nwL := List.mem_of_getElem? (i := 28) rfl
theorem n_196 : Cond.fieldLinkNest "IharaZeta" 211 "IharaZeta$VertexPolynomial" "coefficients" "[J" "IharaZeta" ∈ nwL := List.mem_of_getElem? (i := 29) rfl
def KK (g : GG) (U : State) : Prop := va_K (gD g) vwCl (gT g) U ∧ (∀ w ∈ nwL, va_Nw w U) ∧ va_AO RX2 U ∧ va_AOA .long U
theorem KK.warm {g : GG} {s U : State} (hW : s.WarmedH U.vm) (h : KK g s) : KK g U := ⟨va_K.moved hW.alike h.1, fun w hw => nwL_warm w hw hW (h.2.1 w hw), va_AO.moved hW.alike h.2.2.1, va_AOA.moved hW.alike h.2.2.2⟩
theorem KK.blind {g : GG} {U : State} {fr : JFrame} {mk : MethodId} {a : Array Value} (h : KK g U) : KK g (U.calling fr mk a) := ⟨va_K.moved (u := U) (U := U.calling fr mk a) (Vm.Alike.refl U.vm) h.1, fun w hw => va_Nw.same (nwL_tab w hw) (u := U) rfl (h.2.1 w hw), va_AO.moved (u := U) (U := U.calling fr mk a) (Vm.Alike.refl U.vm) h.2.2.1, va_AOA.moved (u := U) (U := U.calling fr mk a) (Vm.Alike.refl U.vm) h.2.2.2⟩
theorem KK.nw {g : GG} {s : State} {args : Array Value} {w : Cond} (h : KK g s) (hw : w ∈ nwL) : w.before args s = true := va_Nw.use (nwL_tab w hw) (h.2.1 w hw)
def Pre (g : GG) (ws : va_W) (sz : Nat) (U : State) : Prop := U.heap.size = sz ∧ va_P (gD g) vwCl ws U.heap ∧ KK g U ∧ va_D (fun _ => True) ws
theorem Pre.blind {g : GG} {ws : va_W} {sz : Nat} {av : List Value} : FrameBlind (va_Pc av (Pre g ws sz)) := fun _ _ _ _ q => ⟨q.1, q.2.1, q.2.2.1, q.2.2.2.1.blind, q.2.2.2.2⟩
def Q1 (o : Option Value) (B : State → Prop) (A : Nat → Prop) : Array Value → State → Outcome → State → Prop := fun _ st oc t => (oc = .returned o ∧ B t) ∧ va_F A st t
abbrev Wds (y : MethodName) (cc : ByteArray) (n : Nat) (ret : Option FieldType) : List Cond := .code y cc n ret :: tbG
abbrev rmv (fr lo : Nat) : Room := { frames := fr, cells := 0, slots := 0, locals := lo }
def CT (g : GG) (l : Launch) (y : MethodName) (cc : ByteArray) (n : Nat) (ret : Option FieldType) (fr lo : Nat) (av : List Value) (ws ws2 : va_W) (o : Option Value) : Prop :=
  ∀ sz, Met l y (Wds y cc n ret) (rmv fr lo) (va_Pc av (Pre g ws sz)) (Q1 o (fun t => va_P (gD g) vwCl ws2 t.heap ∧ va_D (va_A ws sz) ws2) (va_A ws sz)) 0 0 (va_A ws sz)
def Cx (g : GG) (p : Program) (s : State) (m : MethodId) (args : Array Value) (c : Code) (cc : ByteArray) (own : String) (nL : Nat) : Prop :=
  p.tables.exec = Jvm.exec ∧ c.code = cc ∧ c.maxLocals = nL ∧ s.vm.findClass own = some m.cls ∧ (∀ w ∈ tbG, w.before args s = true) ∧ KK g s
theorem ct_i {g : GG} {l : Launch} {y : MethodName} {cc : ByteArray} {n fr lo : Nat} {av : List Value} {ws ws2 : va_W} {v : Int32} (hy : plainName y.cls = true) (hn : (lg_sl av).length ≤ n)
    (body : ∀ (p : Program) (e : Env) (s : State) (m : MethodId) (args : Array Value) (below : List Frame) (meth : Method) (c : Code) (Q : State → Prop) (A : Nat → Prop) (ls : Array Slot), Cx g p s m args c cc y.cls n → va_P (gD g) vwCl ws s.heap → va_D A ws → (∀ q, s.heap.size ≤ q → A q) → lv_has ls n (lv_args 0 av) →
      (∀ (pc : Nat) (H : Heap) (locs : List Loc) (ls : Array Slot), decode cc pc = .ok (.ireturn, 1) → va_P (gD g) vwCl ws2 H → va_D A ws2 → va_S A s.heap H locs → W p l e (rmv fr lo) s m args below meth c H locs 0 0 Q (F0 m pc ls [.int v])) →
      W p l e (rmv fr lo) s m args below meth c s.heap [] 0 0 Q (F0 m 0 ls [])) : CT g l y cc n (some .int) fr lo av ws ws2 (some (.int v)) := by
  intro sz
  refine Met.ofW (cc := cc) (maxL := n) (ret := (some .int)) hy rfl ?_
  intro p e s m args below meth c s₁ B hml hv
  obtain ⟨rfl, hsz, hP, hK, hD0⟩ := hv
  subst hsz
  have hts := atoms_spec (ws := Wds y cc n (some .int)) B.pre
  have hown : s.vm.findClass y.cls = some m.cls := findClass_of_methodNamed B.named
  have hlocks := B.notSynchronized
  have hr := B.returns
  have hl := lv_entry av (n := n) hn
  rw [lg_entry_eq]
  refine body p e s m av.toArray below meth c _ (va_A ws s.heap.size) _ ⟨B.exec, B.bytes, hml, hown, fun w hw => hts w (List.mem_cons_of_mem _ hw), hK⟩ hP hD0.self (fun q h => Or.inr h) hl ?_
  intro pc H locs ls hd hP2 hD2 hS
  exact W.iret B.exec B.bytes hr (fun t ht hW => ⟨⟨rfl, by rw [ht]; exact hP2, hD2⟩, hS.F ht⟩) hS.2.2 hd
theorem ct_z {g : GG} {l : Launch} {y : MethodName} {cc : ByteArray} {n fr lo : Nat} {av : List Value} {ws ws2 : va_W} {v : Int32} (hy : plainName y.cls = true) (hn : (lg_sl av).length ≤ n)
    (body : ∀ (p : Program) (e : Env) (s : State) (m : MethodId) (args : Array Value) (below : List Frame) (meth : Method) (c : Code) (Q : State → Prop) (A : Nat → Prop) (ls : Array Slot), Cx g p s m args c cc y.cls n → va_P (gD g) vwCl ws s.heap → va_D A ws → (∀ q, s.heap.size ≤ q → A q) → lv_has ls n (lv_args 0 av) →
      (∀ (pc : Nat) (H : Heap) (locs : List Loc) (ls : Array Slot), decode cc pc = .ok (.ireturn, 1) → bq v = true → va_P (gD g) vwCl ws2 H → va_D A ws2 → va_S A s.heap H locs → W p l e (rmv fr lo) s m args below meth c H locs 0 0 Q (F0 m pc ls [.int v])) →
      W p l e (rmv fr lo) s m args below meth c s.heap [] 0 0 Q (F0 m 0 ls [])) : CT g l y cc n (some .boolean) fr lo av ws ws2 (some (.int v)) := by
  intro sz
  refine Met.ofW (cc := cc) (maxL := n) (ret := (some .boolean)) hy rfl ?_
  intro p e s m args below meth c s₁ B hml hv
  obtain ⟨rfl, hsz, hP, hK, hD0⟩ := hv
  subst hsz
  have hts := atoms_spec (ws := Wds y cc n (some .boolean)) B.pre
  have hown : s.vm.findClass y.cls = some m.cls := findClass_of_methodNamed B.named
  have hlocks := B.notSynchronized
  have hr := B.returns
  have hl := lv_entry av (n := n) hn
  rw [lg_entry_eq]
  refine body p e s m av.toArray below meth c _ (va_A ws s.heap.size) _ ⟨B.exec, B.bytes, hml, hown, fun w hw => hts w (List.mem_cons_of_mem _ hw), hK⟩ hP hD0.self (fun q h => Or.inr h) hl ?_
  intro pc H locs ls hd hz hP2 hD2 hS
  exact W.zret B.exec B.bytes hr (bq_nar hz) (fun t ht hW => ⟨⟨rfl, by rw [ht]; exact hP2, hD2⟩, hS.F ht⟩) hS.2.2 hd
theorem ct_l {g : GG} {l : Launch} {y : MethodName} {cc : ByteArray} {n fr lo : Nat} {av : List Value} {ws ws2 : va_W} {v : Int64} (hy : plainName y.cls = true) (hn : (lg_sl av).length ≤ n)
    (body : ∀ (p : Program) (e : Env) (s : State) (m : MethodId) (args : Array Value) (below : List Frame) (meth : Method) (c : Code) (Q : State → Prop) (A : Nat → Prop) (ls : Array Slot), Cx g p s m args c cc y.cls n → va_P (gD g) vwCl ws s.heap → va_D A ws → (∀ q, s.heap.size ≤ q → A q) → lv_has ls n (lv_args 0 av) →
      (∀ (pc : Nat) (H : Heap) (locs : List Loc) (ls : Array Slot), decode cc pc = .ok (.lreturn, 1) → va_P (gD g) vwCl ws2 H → va_D A ws2 → va_S A s.heap H locs → W p l e (rmv fr lo) s m args below meth c H locs 0 0 Q (F0 m pc ls [.long v])) →
      W p l e (rmv fr lo) s m args below meth c s.heap [] 0 0 Q (F0 m 0 ls [])) : CT g l y cc n (some .long) fr lo av ws ws2 (some (.long v)) := by
  intro sz
  refine Met.ofW (cc := cc) (maxL := n) (ret := (some .long)) hy rfl ?_
  intro p e s m args below meth c s₁ B hml hv
  obtain ⟨rfl, hsz, hP, hK, hD0⟩ := hv
  subst hsz
  have hts := atoms_spec (ws := Wds y cc n (some .long)) B.pre
  have hown : s.vm.findClass y.cls = some m.cls := findClass_of_methodNamed B.named
  have hlocks := B.notSynchronized
  have hr := B.returns
  have hl := lv_entry av (n := n) hn
  rw [lg_entry_eq]
  refine body p e s m av.toArray below meth c _ (va_A ws s.heap.size) _ ⟨B.exec, B.bytes, hml, hown, fun w hw => hts w (List.mem_cons_of_mem _ hw), hK⟩ hP hD0.self (fun q h => Or.inr h) hl ?_
  intro pc H locs ls hd hP2 hD2 hS
  exact W.lret B.exec B.bytes hr (fun t ht hW => ⟨⟨rfl, by rw [ht]; exact hP2, hD2⟩, hS.F ht⟩) hS.2.2 hd
theorem ct_v {g : GG} {l : Launch} {y : MethodName} {cc : ByteArray} {n fr lo : Nat} {av : List Value} {ws ws2 : va_W} (hy : plainName y.cls = true) (hn : (lg_sl av).length ≤ n)
    (body : ∀ (p : Program) (e : Env) (s : State) (m : MethodId) (args : Array Value) (below : List Frame) (meth : Method) (c : Code) (Q : State → Prop) (A : Nat → Prop) (ls : Array Slot), Cx g p s m args c cc y.cls n → va_P (gD g) vwCl ws s.heap → va_D A ws → (∀ q, s.heap.size ≤ q → A q) → lv_has ls n (lv_args 0 av) →
      (∀ (pc : Nat) (H : Heap) (locs : List Loc) (ls : Array Slot), decode cc pc = .ok (.return_, 1) → va_P (gD g) vwCl ws2 H → va_D A ws2 → va_S A s.heap H locs → W p l e (rmv fr lo) s m args below meth c H locs 0 0 Q (F0 m pc ls [])) →
      W p l e (rmv fr lo) s m args below meth c s.heap [] 0 0 Q (F0 m 0 ls [])) : CT g l y cc n none fr lo av ws ws2 none := by
  intro sz
  refine Met.ofW (cc := cc) (maxL := n) (ret := none) hy rfl ?_
  intro p e s m args below meth c s₁ B hml hv
  obtain ⟨rfl, hsz, hP, hK, hD0⟩ := hv
  subst hsz
  have hts := atoms_spec (ws := Wds y cc n none) B.pre
  have hown : s.vm.findClass y.cls = some m.cls := findClass_of_methodNamed B.named
  have hlocks := B.notSynchronized
  have hr := B.returns
  have hl := lv_entry av (n := n) hn
  rw [lg_entry_eq]
  refine body p e s m av.toArray below meth c _ (va_A ws s.heap.size) _ ⟨B.exec, B.bytes, hml, hown, fun w hw => hts w (List.mem_cons_of_mem _ hw), hK⟩ hP hD0.self (fun q h => Or.inr h) hl ?_
  intro pc H locs ls hd hP2 hD2 hS
  exact W.vret B.exec B.bytes hr (fun t ht hW => ⟨⟨rfl, by rw [ht]; exact hP2, hD2⟩, hS.F ht⟩) hS.2.2 hd
theorem inX0 : ∀ w ∈ wsX00, w ∈ tbG := fun w h => tbG_in ((List.all_eq_true.mp (show (wsX00.all (fun w => decide (w ∈ lw_tbl))) = true by decide +kernel) w h |> of_decide_eq_true)) (List.all_eq_true.mp (show (wsX00.all goodWord) = true by decide +kernel) w h)
theorem inX1 : ∀ w ∈ wsX10, w ∈ tbG := fun w h => tbG_in ((List.all_eq_true.mp (show (wsX10.all (fun w => decide (w ∈ lw_tbl))) = true by decide +kernel) w h |> of_decide_eq_true)) (List.all_eq_true.mp (show (wsX10.all goodWord) = true by decide +kernel) w h)
theorem inX2 : ∀ w ∈ wsX20, w ∈ tbG := fun w h => tbG_in ((List.all_eq_true.mp (show (wsX20.all (fun w => decide (w ∈ lw_tbl))) = true by decide +kernel) w h |> of_decide_eq_true)) (List.all_eq_true.mp (show (wsX20.all goodWord) = true by decide +kernel) w h)
theorem inX3 : ∀ w ∈ wsX30, w ∈ tbG := fun w h => tbG_in ((List.all_eq_true.mp (show (wsX30.all (fun w => decide (w ∈ lw_tbl))) = true by decide +kernel) w h |> of_decide_eq_true)) (List.all_eq_true.mp (show (wsX30.all goodWord) = true by decide +kernel) w h)
theorem inX4 : ∀ w ∈ wsX40, w ∈ tbG := fun w h => tbG_in ((List.all_eq_true.mp (show (wsX40.all (fun w => decide (w ∈ lw_tbl))) = true by decide +kernel) w h |> of_decide_eq_true)) (List.all_eq_true.mp (show (wsX40.all goodWord) = true by decide +kernel) w h)
theorem inX5 : ∀ w ∈ wsX50, w ∈ tbG := fun w h => tbG_in ((List.all_eq_true.mp (show (wsX50.all (fun w => decide (w ∈ lw_tbl))) = true by decide +kernel) w h |> of_decide_eq_true)) (List.all_eq_true.mp (show (wsX50.all goodWord) = true by decide +kernel) w h)
theorem inX6 : ∀ w ∈ wsX60, w ∈ tbG := fun w h => tbG_in ((List.all_eq_true.mp (show (wsX60.all (fun w => decide (w ∈ lw_tbl))) = true by decide +kernel) w h |> of_decide_eq_true)) (List.all_eq_true.mp (show (wsX60.all goodWord) = true by decide +kernel) w h)
theorem inX7 : ∀ w ∈ wsX70, w ∈ tbG := fun w h => tbG_in ((List.all_eq_true.mp (show (wsX70.all (fun w => decide (w ∈ lw_tbl))) = true by decide +kernel) w h |> of_decide_eq_true)) (List.all_eq_true.mp (show (wsX70.all goodWord) = true by decide +kernel) w h)
theorem inX8 : ∀ w ∈ wsX80, w ∈ tbG := fun w h => tbG_in ((List.all_eq_true.mp (show (wsX80.all (fun w => decide (w ∈ lw_tbl))) = true by decide +kernel) w h |> of_decide_eq_true)) (List.all_eq_true.mp (show (wsX80.all goodWord) = true by decide +kernel) w h)
def setAll : va_W → List Nat → va_W → va_W
  | ws, i :: is, q :: qs => setAll (ws.set i q) is qs
  | ws, [], _ => ws
  | ws, _ :: _, [] => ws
theorem setAll_at : ∀ (is : List Nat) (ws qs : va_W), is.length = qs.length → (∀ i ∈ is, i < ws.length) → ∀ (k : Nat) (q : Nat × va_E), (setAll ws is qs)[k]? = some q → (∃ j : Nat, is[j]? = some k ∧ qs[j]? = some q) ∨ (k ∉ is ∧ ws[k]? = some q) := by
  intro is
  induction is with
  | nil => intro ws qs _ _ k q h; exact Or.inr ⟨List.not_mem_nil, by cases qs <;> exact h⟩
  | cons i is ih =>
    intro ws qs hl hi k q h
    cases qs with
    | nil => cases hl
    | cons q0 qs =>
      have h' : (setAll (ws.set i q0) is qs)[k]? = some q := h
      rcases ih (ws.set i q0) qs (Nat.succ.inj hl) (fun j hj => by rw [List.length_set]; exact hi j (List.mem_cons_of_mem _ hj)) k q h' with ⟨j, a, b⟩ | ⟨a, b⟩
      · exact Or.inl ⟨j + 1, a, b⟩
      · by_cases hk : i = k
        · subst hk
          rw [List.getElem?_set_self (hi i List.mem_cons_self)] at b
          exact Or.inl ⟨0, rfl, b⟩
        · rw [List.getElem?_set_ne hk] at b
          exact Or.inr ⟨fun hm => (List.mem_cons.mp hm).elim (fun e => hk e.symm) a, b⟩
theorem join_set {A0 : Nat → Prop} {D : va_G} {cl : List vw_C} {ws wc wc2 ws2 : va_W} {H H1 : Heap} (hP : va_P D cl ws H) (hD : va_D A0 ws) (isC : List Nat) (hC : isC.map (fun i => ws[i]?) = wc.map some) (hf : wc.map (·.1) = wc2.map (·.1)) (hw2 : setAll ws isC wc2 = ws2)
    (hk : ∀ q : Nat, q < H.size → ¬ va_A wc H.size q → H1[q]? = H[q]?) (hP1 : va_P D cl wc2 H1) : va_P D cl ws2 H1 ∧ va_D A0 ws2 := by
  have hat : ∀ (j : Nat) (q : Nat × va_E), wc[j]? = some q → ∃ i, isC[j]? = some i ∧ ws[i]? = some q := by
    intro j q hq
    have h1 : (isC.map (fun i => ws[i]?))[j]? = some (some q) := by rw [hC, List.getElem?_map, hq]; rfl
    rw [List.getElem?_map] at h1
    cases hi : isC[j]? with
    | none => rw [hi] at h1; cases h1
    | some i => rw [hi] at h1; exact ⟨i, rfl, Option.some.inj h1⟩
  have hlen1 : isC.length = wc.length := by have := congrArg List.length hC; simpa using this
  have hlen2 : wc.length = wc2.length := by have := congrArg List.length hf; simpa using this
  have hin : ∀ i ∈ isC, i < ws.length := by
    intro i hi
    obtain ⟨j, hj⟩ := List.getElem?_of_mem hi
    have hjl : j < wc.length := by rw [← hlen1]; exact (List.getElem?_eq_some_iff.mp hj).1
    obtain ⟨i', h1, h2⟩ := hat j wc[j] (List.getElem?_eq_getElem hjl)
    rw [hj] at h1
    cases h1
    exact (List.getElem?_eq_some_iff.mp h2).1
  have key := setAll_at isC ws wc2 (hlen1.trans hlen2) hin
  have adr : ∀ (k : Nat) (q : Nat × va_E), ws2[k]? = some q → ∃ q0, ws[k]? = some q0 ∧ q0.1 = q.1 := by
    intro k q hq
    rw [← hw2] at hq
    rcases key k q hq with ⟨j, a, b⟩ | ⟨a, b⟩
    · have hjl : j < wc.length := by rw [hlen2]; exact (List.getElem?_eq_some_iff.mp b).1
      obtain ⟨i', h1, h2⟩ := hat j wc[j] (List.getElem?_eq_getElem hjl)
      rw [a] at h1
      cases h1
      refine ⟨_, h2, ?_⟩
      have h3 : (wc.map (·.1))[j]? = (wc2.map (·.1))[j]? := by rw [hf]
      rw [List.getElem?_map, List.getElem?_map, b, List.getElem?_eq_getElem hjl] at h3
      exact Option.some.inj h3
    · exact ⟨q, b, rfl⟩
  refine ⟨fun k q hq => ?_, fun i j x y hi hj hxy => ?_, fun k q hq => ?_⟩
  · rw [← hw2] at hq
    rcases key k q hq with ⟨j, a, b⟩ | ⟨a, b⟩
    · exact hP1 j q b
    · refine (hP k q b).kept (hk q.1 (hP k q b).lt fun h => ?_)
      rcases h with ⟨j, e, h⟩ | h
      · obtain ⟨i, h1, h2⟩ := hat j _ h
        have := hD.1 i k _ _ h2 b rfl
        subst this
        exact a (List.mem_of_getElem? h1)
      · exact absurd (hP k q b).lt (Nat.not_lt.mpr h)
  · obtain ⟨x0, a1, a2⟩ := adr i x hi
    obtain ⟨y0, b1, b2⟩ := adr j y hj
    exact hD.1 i j x0 y0 a1 b1 (a2.trans (hxy.trans b2.symm))
  · obtain ⟨q0, a1, a2⟩ := adr k q hq
    rw [← a2]
    exact hD.2 k q0 a1
theorem ws_in : ∀ q ∈ vwCl, ∀ w ∈ u_ws q.1 q.2.1 q.2.2, w ∈ tbG := List.forall_mem_cons.mpr ⟨inX0, List.forall_mem_cons.mpr ⟨inX1, List.forall_mem_cons.mpr ⟨inX2, List.forall_mem_cons.mpr ⟨inX3, List.forall_mem_cons.mpr ⟨inX4, List.forall_mem_cons.mpr ⟨inX5, List.forall_mem_cons.mpr ⟨inX6, List.forall_mem_cons.mpr ⟨inX7, List.forall_mem_cons.mpr ⟨inX8, fun _ h => absurd h List.not_mem_nil⟩⟩⟩⟩⟩⟩⟩⟩⟩
theorem ws_ty : ∀ q ∈ vwCl, (∃ ty0 : Nat → FieldType, ∀ k, k < q.2.2 → parseFieldDescriptor (q.2.1 k).2.2.1 = some (ty0 k)) ∧ ∀ a, a < q.2.2 → ∀ b, b < q.2.2 → a ≠ b → (q.2.1 a).2.1 ≠ (q.2.1 b).2.1 := List.forall_mem_cons.mpr ⟨⟨⟨tyX0, tyX0_ok⟩, nmX0⟩, List.forall_mem_cons.mpr ⟨⟨⟨tyX1, tyX1_ok⟩, nmX1⟩, List.forall_mem_cons.mpr ⟨⟨⟨tyX2, tyX2_ok⟩, nmX2⟩, List.forall_mem_cons.mpr ⟨⟨⟨tyX3, tyX3_ok⟩, nmX3⟩, List.forall_mem_cons.mpr ⟨⟨⟨tyX4, tyX4_ok⟩, nmX4⟩, List.forall_mem_cons.mpr ⟨⟨⟨tyX5, tyX5_ok⟩, nmX5⟩, List.forall_mem_cons.mpr ⟨⟨⟨tyX6, tyX6_ok⟩, nmX6⟩, List.forall_mem_cons.mpr ⟨⟨⟨tyX7, tyX7_ok⟩, nmX7⟩, List.forall_mem_cons.mpr ⟨⟨⟨tyX8, tyX8_ok⟩, nmX8⟩, fun _ h => absurd h List.not_mem_nil⟩⟩⟩⟩⟩⟩⟩⟩⟩
section WPRE
variable {g : GG} {p : Program} {l : Launch} {e : Env} {R : Room} {s : State} {m : MethodId} {args : Array Value} {below : List Frame} {meth : Method} {c : Code} {H : Heap} {locs : List Loc} {cells slots : Nat} {Q : State → Prop}
variable {cc : ByteArray} {own : String} {nL : Nat} {pc : Nat} {ls : Array Slot} {rest : List Value} {A : Nat → Prop} {a : Nat} {ws : va_W}
theorem w_get (cx : Cx g p s m args c cc own nL) (hP : va_P (gD g) vwCl ws H) (q0 ci k : Nat) {index : Nat} {C : String} {T : u_T} {N : Nat} {fs : List Value} {v : Value} (he : ws[q0]? = some (a, .inr (ci, fs))) (hc : vwCl[ci]? = some (C, T, N)) (hk : k < N) (hl : Cond.fieldLink own index C (T k).2.1 (T k).2.2.1 ∈ tbG) (hT : (T k).1 = C) (hv : fs[k]? = some v) (hdg : decode cc pc = .ok (.getfield index, 3))
    (kk : W p l e R s m args below meth c H locs cells slots Q (F0 m (pc + 3) ls (v :: rest))) : W p l e R s m args below meth c H locs cells slots Q (F0 m pc ls (.ref a :: rest)) :=
  va_get cx.1 cx.2.1 cx.2.2.2.2.1 (ws_in _ (List.mem_of_getElem? hc)) cx.2.2.2.1 cx.2.2.2.2.2.1 hP q0 he hc k hk (cx.2.2.2.2.1 _ hl) (fun _ h => by rw [hT] at h; exact h) hv hdg kk
theorem w_getN (cx : Cx g p s m args c cc own nL) (hP : va_P (gD g) vwCl ws H) (q0 ci k : Nat) {index : Nat} {C : String} {T : u_T} {N : Nat} {host : String} {fs : List Value} {v : Value} (he : ws[q0]? = some (a, .inr (ci, fs))) (hc : vwCl[ci]? = some (C, T, N)) (hk : k < N) (hl : Cond.fieldLinkNest own index C (T k).2.1 (T k).2.2.1 host ∈ nwL) (hT : (T k).1 = C) (hv : fs[k]? = some v) (hdg : decode cc pc = .ok (.getfield index, 3))
    (kk : W p l e R s m args below meth c H locs cells slots Q (F0 m (pc + 3) ls (v :: rest))) : W p l e R s m args below meth c H locs cells slots Q (F0 m pc ls (.ref a :: rest)) :=
  va_getN cx.1 cx.2.1 cx.2.2.2.2.1 (ws_in _ (List.mem_of_getElem? hc)) cx.2.2.2.1 cx.2.2.2.2.2.1 hP q0 he hc k hk (cx.2.2.2.2.2.nw hl) (fun _ h => by rw [hT] at h; exact h) hv hdg kk
theorem w_put (cx : Cx g p s m args c cc own nL) (hP : va_P (gD g) vwCl ws H) (hD : va_D A ws) (hS : va_S A s.heap H locs) (q0 ci k : Nat) {index : Nat} {C : String} {T : u_T} {N : Nat} {fs : List Value} {x : Int32} (he : ws[q0]? = some (a, .inr (ci, fs))) (hc : vwCl[ci]? = some (C, T, N)) (hk : k < N) (hl : Cond.fieldLink own index C (T k).2.1 (T k).2.2.1 ∈ tbG) (hT : (T k).1 = C) (hfin : (T k).2.2.2 = false) (hty : (T k).2.2.1 = "I") (hlen : k < fs.length) (hdg : decode cc pc = .ok (.putfield index, 3)) (ws2 : va_W) (hw : ws.set q0 (a, .inr (ci, fs.set k (.int x))) = ws2)
    (kk : ∀ (H1 : Heap) (locs1 : List Loc), va_P (gD g) vwCl ws2 H1 → va_D A ws2 → va_S A s.heap H1 locs1 → W p l e R s m args below meth c H1 locs1 cells slots Q (F0 m (pc + 3) ls rest)) : W p l e R s m args below meth c H locs cells slots Q (F0 m pc ls (.int x :: .ref a :: rest)) := by
  obtain ⟨⟨ty0, h1⟩, h2⟩ := ws_ty _ (List.mem_of_getElem? hc)
  exact va_put cx.1 cx.2.1 cx.2.2.2.2.1 (ws_in _ (List.mem_of_getElem? hc)) ty0 h1 h2 cx.2.2.2.1 cx.2.2.2.2.2.1 hP hD hS q0 he hc k hk (cx.2.2.2.2.1 _ hl) (fun _ h => by rw [hT] at h; exact h) hfin (ty := .int) (v := .int x) (by rw [hty]; decide) rfl rfl hlen hdg (fun H1 locs1 a b d => kk H1 locs1 (hw ▸ a) (hw ▸ b) d)
theorem w_putN (cx : Cx g p s m args c cc own nL) (hP : va_P (gD g) vwCl ws H) (hD : va_D A ws) (hS : va_S A s.heap H locs) (q0 ci k : Nat) {index : Nat} {C : String} {T : u_T} {N : Nat} {host : String} {fs : List Value} {x : Int32} (he : ws[q0]? = some (a, .inr (ci, fs))) (hc : vwCl[ci]? = some (C, T, N)) (hk : k < N) (hl : Cond.fieldLinkNest own index C (T k).2.1 (T k).2.2.1 host ∈ nwL) (hT : (T k).1 = C) (hfin : (T k).2.2.2 = false) (hty : (T k).2.2.1 = "I") (hlen : k < fs.length) (hdg : decode cc pc = .ok (.putfield index, 3)) (ws2 : va_W) (hw : ws.set q0 (a, .inr (ci, fs.set k (.int x))) = ws2)
    (kk : ∀ (H1 : Heap) (locs1 : List Loc), va_P (gD g) vwCl ws2 H1 → va_D A ws2 → va_S A s.heap H1 locs1 → W p l e R s m args below meth c H1 locs1 cells slots Q (F0 m (pc + 3) ls rest)) : W p l e R s m args below meth c H locs cells slots Q (F0 m pc ls (.int x :: .ref a :: rest)) := by
  obtain ⟨⟨ty0, h1⟩, h2⟩ := ws_ty _ (List.mem_of_getElem? hc)
  exact va_putN cx.1 cx.2.1 cx.2.2.2.2.1 (ws_in _ (List.mem_of_getElem? hc)) ty0 h1 h2 cx.2.2.2.1 cx.2.2.2.2.2.1 hP hD hS q0 he hc k hk (cx.2.2.2.2.2.nw hl) (fun _ h => by rw [hT] at h; exact h) hfin (ty := .int) (v := .int x) (by rw [hty]; decide) rfl rfl hlen hdg (fun H1 locs1 a b d => kk H1 locs1 (hw ▸ a) (hw ▸ b) d)
theorem w_iald (cx : Cx g p s m args c cc own nL) (hP : va_P (gD g) vwCl ws H) (q0 : Nat) {n : Nat} {f : Nat → Int32} (he : ws[q0]? = some (aI g a n f)) {i : Int32} (hin : inb i n = true) (hdg : decode cc pc = .ok (.iaload, 1))
    (kk : W p l e R s m args below meth c H locs cells slots Q (F0 m (pc + 1) ls (.int (f i.toNatClampNeg) :: rest))) : W p l e R s m args below meth c H locs cells slots Q (F0 m pc ls (.int i :: .ref a :: rest)) :=
  va_iald cx.1 cx.2.1 cx.2.2.2.2.2.1 hP q0 0 he rfl (inb_in hin) hdg kk
theorem w_iast (cx : Cx g p s m args c cc own nL) (hP : va_P (gD g) vwCl ws H) (hD : va_D A ws) (hS : va_S A s.heap H locs) (q0 : Nat) {n : Nat} {f : Nat → Int32} (he : ws[q0]? = some (aI g a n f)) {i : Int32} {x : Int32} (hin : inb i n = true) (hdg : decode cc pc = .ok (.iastore, 1)) (ws2 : va_W) (hw : ws.set q0 (aI g a n (upd f i.toNatClampNeg x)) = ws2)
    (kk : ∀ (H1 : Heap) (locs1 : List Loc), va_P (gD g) vwCl ws2 H1 → va_D A ws2 → va_S A s.heap H1 locs1 → W p l e R s m args below meth c H1 locs1 cells slots Q (F0 m (pc + 1) ls rest)) : W p l e R s m args below meth c H locs cells slots Q (F0 m pc ls (.int x :: .int i :: .ref a :: rest)) :=
  va_iast cx.1 cx.2.1 cx.2.2.2.2.2.1 hP hD hS q0 0 he rfl (inb_in hin) hdg (fun H1 locs1 a b d => kk H1 locs1 (hw ▸ a) (hw ▸ b) d)
theorem w_lald (cx : Cx g p s m args c cc own nL) (hP : va_P (gD g) vwCl ws H) (q0 : Nat) {n : Nat} {f : Nat → Int64} (he : ws[q0]? = some (aJ g a n f)) {i : Int32} (hin : inb i n = true) (hdg : decode cc pc = .ok (.laload, 1))
    (kk : W p l e R s m args below meth c H locs cells slots Q (F0 m (pc + 1) ls (.long (f i.toNatClampNeg) :: rest))) : W p l e R s m args below meth c H locs cells slots Q (F0 m pc ls (.int i :: .ref a :: rest)) :=
  va_lald cx.1 cx.2.1 cx.2.2.2.2.2.1 hP q0 1 he rfl (inb_in hin) hdg kk
theorem w_last (cx : Cx g p s m args c cc own nL) (hP : va_P (gD g) vwCl ws H) (hD : va_D A ws) (hS : va_S A s.heap H locs) (q0 : Nat) {n : Nat} {f : Nat → Int64} (he : ws[q0]? = some (aJ g a n f)) {i : Int32} {x : Int64} (hin : inb i n = true) (hdg : decode cc pc = .ok (.lastore, 1)) (ws2 : va_W) (hw : ws.set q0 (aJ g a n (vp_updL f i.toNatClampNeg x)) = ws2)
    (kk : ∀ (H1 : Heap) (locs1 : List Loc), va_P (gD g) vwCl ws2 H1 → va_D A ws2 → va_S A s.heap H1 locs1 → W p l e R s m args below meth c H1 locs1 cells slots Q (F0 m (pc + 1) ls rest)) : W p l e R s m args below meth c H locs cells slots Q (F0 m pc ls (.long x :: .int i :: .ref a :: rest)) :=
  va_last cx.1 cx.2.1 cx.2.2.2.2.2.1 hP hD hS q0 1 he rfl (inb_in hin) hdg (fun H1 locs1 a b d => kk H1 locs1 (hw ▸ a) (hw ▸ b) d)
theorem w_alen (cx : Cx g p s m args c cc own nL) (hP : va_P (gD g) vwCl ws H) (q0 : Nat) {n : Nat} {f : Nat → Int64} (he : ws[q0]? = some (aJ g a n f)) (hdg : decode cc pc = .ok (.arraylength, 1))
    (kk : W p l e R s m args below meth c H locs cells slots Q (F0 m (pc + 1) ls (.int (nI n) :: rest))) : W p l e R s m args below meth c H locs cells slots Q (F0 m pc ls (.ref a :: rest)) :=
  va_alen cx.1 cx.2.1 cx.2.2.2.2.2.1 hP q0 1 he (ty := .long) rfl rfl hdg kk
def yq (y : MethodName) (k : Nat) : Prop := y.cls ≠ "java/lang/invoke/MethodHandle" ∧ y.cls ≠ "java/lang/invoke/VarHandle" ∧ (parseMethodDescriptor y.desc).map (fun d => d.parameters.length) = some k
theorem w_run {wc wc2 ws2 : va_W} {o : Option Value} {st rs : List Value} (hP : va_P (gD g) vwCl ws H) (hD : va_D A ws) (hS : va_S A s.heap H locs) (hA : ∀ q, s.heap.size ≤ q → A q) (isC : List Nat) (hC : isC.map (fun i => ws[i]?) = wc.map some) (hf : wc.map (·.1) = wc2.map (·.1)) (hw2 : setAll ws isC wc2 = ws2) (hrs : o.toList ++ rest = rs) {Av : Array Value}
    (hr : va_Run p l e R s m args below meth c H locs cells slots 0 0 (F0 m pc ls st) rest (Q1 o (fun t => va_P (gD g) vwCl wc2 t.heap ∧ va_D (va_A wc H.size) wc2) (va_A wc H.size) Av) (va_A wc H.size))
    (kk : ∀ (H1 : Heap) (locs1 : List Loc), va_P (gD g) vwCl ws2 H1 → va_D A ws2 → va_S A s.heap H1 locs1 → W p l e R s m args below meth c H1 locs1 cells slots Q (F0 m (pc + 3) ls rs)) : W p l e R s m args below meth c H locs cells slots Q (F0 m pc ls st) := by
  intro T hT X
  have hfr := va_free hD hS hA isC hC
  obtain ⟨v, st₀, t, T', L, h0, X', hL, e1, e2, ⟨⟨hv, hp, hd⟩, hz, hk⟩, st⟩ := hr T hT X
  cases hv
  rw [h0] at hz hk
  obtain ⟨j1, j2⟩ := join_set hP hD isC hC hf hw2 (H1 := T'.heap) (fun q h1 h2 => by rw [e1]; exact hk q h1 h2) (by rw [e1]; exact hp)
  obtain ⟨t2, a1, b1⟩ := kk T'.heap (locs ++ L) j1 j2
    ⟨Nat.le_trans hS.1 (by rw [e1]; exact hz), fun q h1 h2 => by rw [e1, hk q (Nat.lt_of_lt_of_le h1 hS.1) (fun z => h2 (hfr q z))]; exact hS.2.1 q h1 h2, fun q hq => by
      rcases List.mem_append.mp hq with h | h
      · exact hS.2.2 q h
      · exact hfr _ (hL q h)⟩ T' rfl X'
  exact ⟨t2, st t2 (by subst hrs; exact a1), b1⟩
theorem w_good {y : MethodName} {cc' : ByteArray} {n' : Nat} {ret : Option FieldType} (h : Cond.code y cc' n' ret ∈ tbG) : GoodIn tbG (Wds y cc' n' ret) := fun w hw => by
  have hm : w ∈ tbG := (List.mem_cons.mp hw).elim (fun e => e ▸ h) (fun h => h)
  exact ⟨hm, good_of_word (tbG_good hm)⟩
theorem w_sub {wc : va_W} (hP : va_P (gD g) vwCl ws H) (isC : List Nat) (hC : isC.map (fun i => ws[i]?) = wc.map some) : va_P (gD g) vwCl wc H := fun j q hq => by
  have h1 : (isC.map (fun i => ws[i]?))[j]? = some (some q) := by rw [hC, List.getElem?_map, hq]; rfl
  rw [List.getElem?_map] at h1
  cases hi : isC[j]? with
  | none => rw [hi] at h1; cases h1
  | some i => rw [hi] at h1; exact hP i q (Option.some.inj h1)
theorem w_callV (cx : Cx g p s m args c cc own nL) (hP : va_P (gD g) vwCl ws H) (hD : va_D A ws) (hS : va_S A s.heap H locs) (hA : ∀ q, s.heap.size ≤ q → A q) {y : MethodName} {cc' : ByteArray} {n' fr lo : Nat} {ret : Option FieldType} {b : Nat} {As : List Value} {wc wc2 : va_W} {o : Option Value} (hM : CT g l y cc' n' ret fr lo (.ref b :: As) wc wc2 o)
    (isC : List Nat) (hC : isC.map (fun i => ws[i]?) = wc.map some) (hnd : va_nd isC = true) (hf : wc.map (·.1) = wc2.map (·.1)) (ws2 : va_W) (hw2 : setAll ws isC wc2 = ws2) (q0 ci : Nat) {C : String} {T : u_T} {N : Nat} {fs : List Value} (hq : ws[q0]? = some (b, .inr (ci, fs))) (hc : vwCl[ci]? = some (C, T, N)) {k idx : Nat} (hy : yq y k) (hcls : y.cls = C)
    (m1 : Cond.methodLink own idx y ∈ tbG) (m2 : Cond.instanceMethod y ∈ tbG) (m3 : Cond.selects C y y ∈ tbG) (m4 : Cond.initialized y.cls ∈ tbG) (m5 : Cond.code y cc' n' ret ∈ tbG) (hR : fr + 1 ≤ R.frames ∧ 8 + (n' + 11) + lo ≤ R.locals) (hn : As.length = k) {st rs : List Value} (hst : st = As.reverse ++ .ref b :: rest) (hls : ls.size = nL) (hW : (rest.map fun v => v.category).sum ≤ 8) (hdg : decode cc pc = .ok (.invokevirtual idx, 3)) (hcs : cells ≤ R.cells ∧ slots ≤ R.slots) (hrs : o.toList ++ rest = rs)
    (kk : ∀ (H1 : Heap) (locs1 : List Loc), va_P (gD g) vwCl ws2 H1 → va_D A ws2 → va_S A s.heap H1 locs1 → W p l e R s m args below meth c H1 locs1 cells slots Q (F0 m (pc + 3) ls rs)) : W p l e R s m args below meth c H locs cells slots Q (F0 m pc ls st) := by
  subst hcls
  have hPc : va_P (gD g) vwCl wc H := w_sub hP isC hC
  have hDc := (hD.sub isC hnd hC).weaken (B := fun _ => True) (fun _ _ _ _ => trivial)
  have h0 := hP q0 _ hq
  exact w_run hP hD hS hA isC hC hf hw2 hrs (va_runV ⟨cx.1, cx.2.1, cx.2.2.1, cx.2.2.2.1, cx.2.2.2.2.1⟩ (hM H.size) ⟨callB_of k cx.2.2.2.2.1 (w_good m5) rfl rfl rfl (cx.2.2.2.2.1 _ m4) (cx.2.2.2.2.1 _ m1) hy hR, cx.2.2.2.2.1 _ m2, cx.2.2.2.2.1 _ m3⟩
    ⟨Pre.blind, va_recv cx.2.2.2.2.2.1 hP hc hq, fun U hU hW => ⟨rfl, by rw [hU], by rw [hU]; exact hPc, cx.2.2.2.2.2.warm hW, hDc⟩⟩ rfl hn hls hst (lv_room hW) hdg hcs) kk
theorem w_callS (cx : Cx g p s m args c cc own nL) (hP : va_P (gD g) vwCl ws H) (hD : va_D A ws) (hS : va_S A s.heap H locs) (hA : ∀ q, s.heap.size ≤ q → A q) {y : MethodName} {cc' : ByteArray} {n' fr lo : Nat} {ret : Option FieldType} {As : List Value} {wc wc2 : va_W} {o : Option Value} (hM : CT g l y cc' n' ret fr lo As wc wc2 o)
    (isC : List Nat) (hC : isC.map (fun i => ws[i]?) = wc.map some) (hnd : va_nd isC = true) (hf : wc.map (·.1) = wc2.map (·.1)) (ws2 : va_W) (hw2 : setAll ws isC wc2 = ws2) {k idx : Nat} (hy : yq y k)
    (m1 : Cond.methodLink own idx y ∈ tbG) (m2 : Cond.static y ∈ tbG) (m4 : Cond.initialized y.cls ∈ tbG) (m5 : Cond.code y cc' n' ret ∈ tbG) (hR : fr + 1 ≤ R.frames ∧ 8 + (n' + 11) + lo ≤ R.locals) (hn : As.length = k) {st rs : List Value} (hst : st = As.reverse ++ rest) (hls : ls.size = nL) (hW : (rest.map fun v => v.category).sum ≤ 8) (hdg : decode cc pc = .ok (.invokestatic idx, 3)) (hcs : cells ≤ R.cells ∧ slots ≤ R.slots) (hrs : o.toList ++ rest = rs)
    (kk : ∀ (H1 : Heap) (locs1 : List Loc), va_P (gD g) vwCl ws2 H1 → va_D A ws2 → va_S A s.heap H1 locs1 → W p l e R s m args below meth c H1 locs1 cells slots Q (F0 m (pc + 3) ls rs)) : W p l e R s m args below meth c H locs cells slots Q (F0 m pc ls st) := by
  have hPc : va_P (gD g) vwCl wc H := w_sub hP isC hC
  have hDc := (hD.sub isC hnd hC).weaken (B := fun _ => True) (fun _ _ _ _ => trivial)
  exact w_run hP hD hS hA isC hC hf hw2 hrs (va_runS ⟨cx.1, cx.2.1, cx.2.2.1, cx.2.2.2.1, cx.2.2.2.2.1⟩ (hM H.size) ⟨callB_of k cx.2.2.2.2.1 (w_good m5) rfl rfl rfl (cx.2.2.2.2.1 _ m4) (cx.2.2.2.2.1 _ m1) hy hR, cx.2.2.2.2.1 _ m2⟩
    ⟨Pre.blind, fun U hU hW => ⟨rfl, by rw [hU], by rw [hU]; exact hPc, cx.2.2.2.2.2.warm hW, hDc⟩⟩ rfl hn hls hst (lv_room hW) hdg hcs) kk
end WPRE
